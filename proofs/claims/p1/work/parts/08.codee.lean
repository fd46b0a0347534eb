theorem dX13_define_0 : decode cX13_define 0 = .ok (.aload_n 0, 1) := by decide +kernel
theorem dX13_define_1 : decode cX13_define 1 = .ok (.iconst 0, 1) := by decide +kernel
theorem dX13_define_2 : decode cX13_define 2 = .ok (.putfield 81, 3) := by decide +kernel
theorem dX13_define_5 : decode cX13_define 5 = .ok (.aload_n 0, 1) := by decide +kernel
theorem dX13_define_6 : decode cX13_define 6 = .ok (.iload_n 1, 1) := by decide +kernel
theorem dX13_define_7 : decode cX13_define 7 = .ok (.invokevirtual 105, 3) := by decide +kernel
theorem dX13_define_10 : decode cX13_define 10 = .ok (.ifCond .ne 9, 3) := by decide +kernel
theorem dX13_define_13 : decode cX13_define 13 = .ok (.aload_n 0, 1) := by decide +kernel
theorem dX13_define_14 : decode cX13_define 14 = .ok (.iconst 1, 1) := by decide +kernel
theorem dX13_define_15 : decode cX13_define 15 = .ok (.invokevirtual 94, 3) := by decide +kernel
theorem dX13_define_18 : decode cX13_define 18 = .ok (.ireturn, 1) := by decide +kernel
theorem dX13_define_19 : decode cX13_define 19 = .ok (.iload_n 2, 1) := by decide +kernel
theorem dX13_define_20 : decode cX13_define 20 = .ok (.invokestatic 112, 3) := by decide +kernel
theorem dX13_define_23 : decode cX13_define 23 = .ok (.ifCond .eq 35, 3) := by decide +kernel
theorem dX13_define_26 : decode cX13_define 26 = .ok (.aload_n 0, 1) := by decide +kernel
theorem dX13_define_27 : decode cX13_define 27 = .ok (.aload_n 0, 1) := by decide +kernel
theorem dX13_define_28 : decode cX13_define 28 = .ok (.getfield 9, 3) := by decide +kernel
theorem dX13_define_31 : decode cX13_define 31 = .ok (.iload_n 1, 1) := by decide +kernel
theorem dX13_define_32 : decode cX13_define 32 = .ok (.iaload, 1) := by decide +kernel
theorem dX13_define_33 : decode cX13_define 33 = .ok (.iload_n 2, 1) := by decide +kernel
theorem dX13_define_34 : decode cX13_define 34 = .ok (.iload_n 3, 1) := by decide +kernel
theorem dX13_define_35 : decode cX13_define 35 = .ok (.ifCond .eq 7, 3) := by decide +kernel
theorem dX13_define_38 : decode cX13_define 38 = .ok (.iconst 2, 1) := by decide +kernel
theorem dX13_define_39 : decode cX13_define 39 = .ok (.goto 4, 3) := by decide +kernel
theorem dX13_define_42 : decode cX13_define 42 = .ok (.iconst 1, 1) := by decide +kernel
theorem dX13_define_43 : decode cX13_define 43 = .ok (.iload_n 1, 1) := by decide +kernel
theorem dX13_define_44 : decode cX13_define 44 = .ok (.aload_n 0, 1) := by decide +kernel
theorem dX13_define_45 : decode cX13_define 45 = .ok (.getfield 16, 3) := by decide +kernel
theorem dX13_define_48 : decode cX13_define 48 = .ok (.iload_n 1, 1) := by decide +kernel
theorem dX13_define_49 : decode cX13_define 49 = .ok (.iaload, 1) := by decide +kernel
theorem dX13_define_50 : decode cX13_define 50 = .ok (.iload 4, 2) := by decide +kernel
theorem dX13_define_52 : decode cX13_define 52 = .ok (.invokevirtual 115, 3) := by decide +kernel
theorem dX13_define_55 : decode cX13_define 55 = .ok (.goto 8, 3) := by decide +kernel
theorem dX13_define_58 : decode cX13_define 58 = .ok (.aload_n 0, 1) := by decide +kernel
theorem dX13_define_59 : decode cX13_define 59 = .ok (.iconst 2, 1) := by decide +kernel
theorem dX13_define_60 : decode cX13_define 60 = .ok (.invokevirtual 94, 3) := by decide +kernel
theorem dX13_define_63 : decode cX13_define 63 = .ok (.ireturn, 1) := by decide +kernel
def g_X13_define : Nat → EA := (t_n 32 (t_n 15 (t_n 6 (t_n 2 (t_n 1 (t_l 0 (a_aload 1 0)) (t_l 1 (a_push 1 (.int 0)))) (t_n 5 (t_l 2 (a_putf 0 13 0)) (t_l 5 (a_aload 1 0)))) (t_n 10 (t_n 7 (t_l 6 (a_iload 1 1)) (t_l 7 (a_inv true 234 2 (some 13)))) (t_n 13 (t_l 10 (a_if 19 (fun x => !decide (x = 0)))) (t_n 14 (t_l 13 (a_aload 1 0)) (t_l 14 (a_push 1 (.int 1))))))) (t_n 23 (t_n 19 (t_n 18 (t_l 15 (a_inv true 229 2 (some 13))) (t_l 18 a_iret)) (t_n 20 (t_l 19 (a_iload 1 2)) (t_l 20 (a_inv true 235 1 none)))) (t_n 27 (t_n 26 (t_l 23 (a_if 58 (fun x => decide (x = 0)))) (t_l 26 (a_aload 1 0))) (t_n 28 (t_l 27 (a_aload 1 0)) (t_n 31 (t_l 28 (a_getf 13 4)) (t_l 31 (a_iload 1 1))))))) (t_n 45 (t_n 38 (t_n 34 (t_n 33 (t_l 32 (a_ild 0)) (t_l 33 (a_iload 1 2))) (t_n 35 (t_l 34 (a_iload 1 3)) (t_l 35 (a_if 42 (fun x => decide (x = 0)))))) (t_n 42 (t_n 39 (t_l 38 (a_push 1 (.int 2))) (t_l 39 (a_goto 43))) (t_n 43 (t_l 42 (a_push 1 (.int 1))) (t_n 44 (t_l 43 (a_iload 1 1)) (t_l 44 (a_aload 1 0)))))) (t_n 55 (t_n 49 (t_n 48 (t_l 45 (a_getf 13 6)) (t_l 48 (a_iload 1 1))) (t_n 50 (t_l 49 (a_ild 0)) (t_n 52 (t_l 50 (a_iload 2 4)) (t_l 52 (a_inv true 242 7 (some 13)))))) (t_n 59 (t_n 58 (t_l 55 (a_goto 63)) (t_l 58 (a_aload 1 0))) (t_n 60 (t_l 59 (a_push 1 (.int 2))) (t_n 63 (t_l 60 (a_inv true 229 2 (some 13))) (t_l 63 a_iret)))))))
set_option maxRecDepth 100000 in
theorem k_X13_define (d : Nat) : ∀ pc, ev_Ok cX13_define 5 [] RX13 lw_g lw_n lw_q vwCl false (ev_CO mt lw_g lw_n lw_q vwCl d) pc (g_X13_define pc) := (ok_t_n (ok_t_n (ok_t_n (ok_t_n (ok_t_n (ok_t_l (ok_aload_n dX13_define_0 rfl)) (ok_t_l (ok_iconst dX13_define_1 rfl))) (ok_t_n (ok_t_l (ok_putfield dX13_define_2 (ci := 13) (kf := 0) rfl inGX13 (by decide) tyX13_ok nmX13 rfl w_1559 rfl)) (ok_t_l (ok_aload_n dX13_define_5 rfl)))) (ok_t_n (ok_t_n (ok_t_l (ok_iload_n dX13_define_6 rfl)) (ok_t_l (ok_inv (run_V (y := 234) (n := 1) (ci := 13) dX13_define_7 cz_234 gdG cc_234 ci_234 w_1694 cm_234 cs_234 cd_234 cl_234 rfl rfl)))) (ok_t_n (ok_t_l (ok_if_ne dX13_define_10 rfl)) (ok_t_n (ok_t_l (ok_aload_n dX13_define_13 rfl)) (ok_t_l (ok_iconst dX13_define_14 rfl)))))) (ok_t_n (ok_t_n (ok_t_n (ok_t_l (ok_inv (run_V (y := 229) (n := 1) (ci := 13) dX13_define_15 cz_229 gdG cc_229 ci_229 w_1672 cm_229 cs_229 cd_229 cl_229 rfl rfl))) (ok_t_l (ok_ireturn dX13_define_18))) (ok_t_n (ok_t_l (ok_iload_n dX13_define_19 rfl)) (ok_t_l (ok_inv (run_S (y := 235) (n := 1) dX13_define_20 cz_235 gdG cc_235 ci_235 w_1706 cm_235 cd_235 cl_235))))) (ok_t_n (ok_t_n (ok_t_l (ok_if_eq dX13_define_23 rfl)) (ok_t_l (ok_aload_n dX13_define_26 rfl))) (ok_t_n (ok_t_l (ok_aload_n dX13_define_27 rfl)) (ok_t_n (ok_t_l (ok_getfield dX13_define_28 (ci := 13) (kf := 4) rfl inGX13 (by decide) w_1566)) (ok_t_l (ok_iload_n dX13_define_31 rfl))))))) (ok_t_n (ok_t_n (ok_t_n (ok_t_n (ok_t_l (ok_iaload dX13_define_32)) (ok_t_l (ok_iload_n dX13_define_33 rfl))) (ok_t_n (ok_t_l (ok_iload_n dX13_define_34 rfl)) (ok_t_l (ok_if_eq dX13_define_35 rfl)))) (ok_t_n (ok_t_n (ok_t_l (ok_iconst dX13_define_38 rfl)) (ok_t_l (ok_goto dX13_define_39 rfl))) (ok_t_n (ok_t_l (ok_iconst dX13_define_42 rfl)) (ok_t_n (ok_t_l (ok_iload_n dX13_define_43 rfl)) (ok_t_l (ok_aload_n dX13_define_44 rfl)))))) (ok_t_n (ok_t_n (ok_t_n (ok_t_l (ok_getfield dX13_define_45 (ci := 13) (kf := 6) rfl inGX13 (by decide) w_1570)) (ok_t_l (ok_iload_n dX13_define_48 rfl))) (ok_t_n (ok_t_l (ok_iaload dX13_define_49)) (ok_t_n (ok_t_l (ok_iload dX13_define_50)) (ok_t_l (ok_inv (run_V (y := 242) (n := 6) (ci := 13) dX13_define_52 cz_242 gdG cc_242 ci_242 w_1717 cm_242 cs_242 cd_242 cl_242 rfl rfl)))))) (ok_t_n (ok_t_n (ok_t_l (ok_goto dX13_define_55 rfl)) (ok_t_l (ok_aload_n dX13_define_58 rfl))) (ok_t_n (ok_t_l (ok_iconst dX13_define_59 rfl)) (ok_t_n (ok_t_l (ok_inv (run_V (y := 229) (n := 1) (ci := 13) dX13_define_60 cz_229 gdG cc_229 ci_229 w_1672 cm_229 cs_229 cd_229 cl_229 rfl rfl))) (ok_t_l (ok_ireturn dX13_define_63))))))))
theorem dX13_definitions_0 : decode cX13_definitions 0 = .ok (.iconst 0, 1) := by decide +kernel
theorem dX13_definitions_1 : decode cX13_definitions 1 = .ok (.istore_n 2, 1) := by decide +kernel
theorem dX13_definitions_2 : decode cX13_definitions 2 = .ok (.iconst 0, 1) := by decide +kernel
theorem dX13_definitions_3 : decode cX13_definitions 3 = .ok (.istore_n 3, 1) := by decide +kernel
theorem dX13_definitions_4 : decode cX13_definitions 4 = .ok (.iload_n 3, 1) := by decide +kernel
theorem dX13_definitions_5 : decode cX13_definitions 5 = .ok (.bipush 20, 2) := by decide +kernel
theorem dX13_definitions_7 : decode cX13_definitions 7 = .ok (.if_icmp .ge 31, 3) := by decide +kernel
theorem dX13_definitions_10 : decode cX13_definitions 10 = .ok (.iload_n 2, 1) := by decide +kernel
theorem dX13_definitions_11 : decode cX13_definitions 11 = .ok (.aload_n 0, 1) := by decide +kernel
theorem dX13_definitions_12 : decode cX13_definitions 12 = .ok (.getfield 26, 3) := by decide +kernel
theorem dX13_definitions_15 : decode cX13_definitions 15 = .ok (.iload_n 1, 1) := by decide +kernel
theorem dX13_definitions_16 : decode cX13_definitions 16 = .ok (.bipush 20, 2) := by decide +kernel
theorem dX13_definitions_18 : decode cX13_definitions 18 = .ok (.imul, 1) := by decide +kernel
theorem dX13_definitions_19 : decode cX13_definitions 19 = .ok (.iload_n 3, 1) := by decide +kernel
theorem dX13_definitions_20 : decode cX13_definitions 20 = .ok (.iadd, 1) := by decide +kernel
theorem dX13_definitions_21 : decode cX13_definitions 21 = .ok (.iaload, 1) := by decide +kernel
theorem dX13_definitions_22 : decode cX13_definitions 22 = .ok (.ifCond .le 7, 3) := by decide +kernel
theorem dX13_definitions_25 : decode cX13_definitions 25 = .ok (.iconst 1, 1) := by decide +kernel
theorem dX13_definitions_26 : decode cX13_definitions 26 = .ok (.goto 4, 3) := by decide +kernel
theorem dX13_definitions_29 : decode cX13_definitions 29 = .ok (.iconst 0, 1) := by decide +kernel
theorem dX13_definitions_30 : decode cX13_definitions 30 = .ok (.iadd, 1) := by decide +kernel
theorem dX13_definitions_31 : decode cX13_definitions 31 = .ok (.istore_n 2, 1) := by decide +kernel
theorem dX13_definitions_32 : decode cX13_definitions 32 = .ok (.iinc 3 1, 3) := by decide +kernel
theorem dX13_definitions_35 : decode cX13_definitions 35 = .ok (.goto (-31), 3) := by decide +kernel
theorem dX13_definitions_38 : decode cX13_definitions 38 = .ok (.iload_n 2, 1) := by decide +kernel
theorem dX13_definitions_39 : decode cX13_definitions 39 = .ok (.ireturn, 1) := by decide +kernel
def g_X13_definitions : Nat → EA := (t_n 19 (t_n 7 (t_n 3 (t_n 1 (t_l 0 (a_push 1 (.int 0))) (t_n 2 (t_l 1 (a_istore 4 1 2)) (t_l 2 (a_push 1 (.int 0))))) (t_n 4 (t_l 3 (a_istore 4 1 3)) (t_n 5 (t_l 4 (a_iload 1 3)) (t_l 5 (a_push 2 (.int 20)))))) (t_n 12 (t_n 10 (t_l 7 (a_ic 38 (fun x y => decide (y ≤ x)))) (t_n 11 (t_l 10 (a_iload 1 2)) (t_l 11 (a_aload 1 0)))) (t_n 16 (t_n 15 (t_l 12 (a_getf 13 9)) (t_l 15 (a_iload 1 1))) (t_n 18 (t_l 16 (a_push 2 (.int 20))) (t_l 18 (a_ii 1 (fun x y => x * y))))))) (t_n 29 (t_n 22 (t_n 20 (t_l 19 (a_iload 1 3)) (t_n 21 (t_l 20 (a_ii 1 (fun x y => x + y))) (t_l 21 (a_ild 0)))) (t_n 25 (t_l 22 (a_if 29 (fun x => decide (x ≤ 0)))) (t_n 26 (t_l 25 (a_push 1 (.int 1))) (t_l 26 (a_goto 30))))) (t_n 32 (t_n 30 (t_l 29 (a_push 1 (.int 0))) (t_n 31 (t_l 30 (a_ii 1 (fun x y => x + y))) (t_l 31 (a_istore 4 1 2)))) (t_n 38 (t_n 35 (t_l 32 (a_iinc 4 3 1)) (t_l 35 (a_goto 4))) (t_n 39 (t_l 38 (a_iload 1 2)) (t_l 39 a_iret))))))
set_option maxRecDepth 100000 in
theorem k_X13_definitions (d : Nat) : ∀ pc, ev_Ok cX13_definitions 4 [] RX13 lw_g lw_n lw_q vwCl false (ev_CO mt lw_g lw_n lw_q vwCl d) pc (g_X13_definitions pc) := (ok_t_n (ok_t_n (ok_t_n (ok_t_n (ok_t_l (ok_iconst dX13_definitions_0 rfl)) (ok_t_n (ok_t_l (ok_istore_n dX13_definitions_1 rfl)) (ok_t_l (ok_iconst dX13_definitions_2 rfl)))) (ok_t_n (ok_t_l (ok_istore_n dX13_definitions_3 rfl)) (ok_t_n (ok_t_l (ok_iload_n dX13_definitions_4 rfl)) (ok_t_l (ok_bipush dX13_definitions_5 rfl))))) (ok_t_n (ok_t_n (ok_t_l (ok_icmp_ge dX13_definitions_7 rfl)) (ok_t_n (ok_t_l (ok_iload_n dX13_definitions_10 rfl)) (ok_t_l (ok_aload_n dX13_definitions_11 rfl)))) (ok_t_n (ok_t_n (ok_t_l (ok_getfield dX13_definitions_12 (ci := 13) (kf := 9) rfl inGX13 (by decide) w_1576)) (ok_t_l (ok_iload_n dX13_definitions_15 rfl))) (ok_t_n (ok_t_l (ok_bipush dX13_definitions_16 rfl)) (ok_t_l (ok_imul dX13_definitions_18)))))) (ok_t_n (ok_t_n (ok_t_n (ok_t_l (ok_iload_n dX13_definitions_19 rfl)) (ok_t_n (ok_t_l (ok_iadd dX13_definitions_20)) (ok_t_l (ok_iaload dX13_definitions_21)))) (ok_t_n (ok_t_l (ok_if_le dX13_definitions_22 rfl)) (ok_t_n (ok_t_l (ok_iconst dX13_definitions_25 rfl)) (ok_t_l (ok_goto dX13_definitions_26 rfl))))) (ok_t_n (ok_t_n (ok_t_l (ok_iconst dX13_definitions_29 rfl)) (ok_t_n (ok_t_l (ok_iadd dX13_definitions_30)) (ok_t_l (ok_istore_n dX13_definitions_31 rfl)))) (ok_t_n (ok_t_n (ok_t_l (ok_iinc dX13_definitions_32 rfl)) (ok_t_l (ok_goto dX13_definitions_35 rfl))) (ok_t_n (ok_t_l (ok_iload_n dX13_definitions_38 rfl)) (ok_t_l (ok_ireturn dX13_definitions_39)))))))
theorem dX13_common_0 : decode cX13_common 0 = .ok (.aload_n 0, 1) := by decide +kernel
theorem dX13_common_1 : decode cX13_common 1 = .ok (.iconst 0, 1) := by decide +kernel
theorem dX13_common_2 : decode cX13_common 2 = .ok (.putfield 81, 3) := by decide +kernel
theorem dX13_common_5 : decode cX13_common 5 = .ok (.aload_n 0, 1) := by decide +kernel
theorem dX13_common_6 : decode cX13_common 6 = .ok (.iload_n 1, 1) := by decide +kernel
theorem dX13_common_7 : decode cX13_common 7 = .ok (.invokevirtual 98, 3) := by decide +kernel
theorem dX13_common_10 : decode cX13_common 10 = .ok (.ifCond .ne 9, 3) := by decide +kernel
theorem dX13_common_13 : decode cX13_common 13 = .ok (.aload_n 0, 1) := by decide +kernel
theorem dX13_common_14 : decode cX13_common 14 = .ok (.iconst 1, 1) := by decide +kernel
theorem dX13_common_15 : decode cX13_common 15 = .ok (.invokevirtual 94, 3) := by decide +kernel
theorem dX13_common_18 : decode cX13_common 18 = .ok (.ireturn, 1) := by decide +kernel
theorem dX13_common_19 : decode cX13_common 19 = .ok (.iload_n 2, 1) := by decide +kernel
theorem dX13_common_20 : decode cX13_common 20 = .ok (.invokestatic 112, 3) := by decide +kernel
theorem dX13_common_23 : decode cX13_common 23 = .ok (.ifCond .eq 21, 3) := by decide +kernel
theorem dX13_common_26 : decode cX13_common 26 = .ok (.iload_n 3, 1) := by decide +kernel
theorem dX13_common_27 : decode cX13_common 27 = .ok (.iconst 1, 1) := by decide +kernel
theorem dX13_common_28 : decode cX13_common 28 = .ok (.bipush 40, 2) := by decide +kernel
theorem dX13_common_30 : decode cX13_common 30 = .ok (.invokestatic 87, 3) := by decide +kernel
theorem dX13_common_33 : decode cX13_common 33 = .ok (.ifCond .eq 11, 3) := by decide +kernel
theorem dX13_common_36 : decode cX13_common 36 = .ok (.iload 4, 2) := by decide +kernel
theorem dX13_common_38 : decode cX13_common 38 = .ok (.invokestatic 102, 3) := by decide +kernel
theorem dX13_common_41 : decode cX13_common 41 = .ok (.ifCond .ne 9, 3) := by decide +kernel
theorem dX13_common_44 : decode cX13_common 44 = .ok (.aload_n 0, 1) := by decide +kernel
theorem dX13_common_45 : decode cX13_common 45 = .ok (.iconst 2, 1) := by decide +kernel
theorem dX13_common_46 : decode cX13_common 46 = .ok (.invokevirtual 94, 3) := by decide +kernel
theorem dX13_common_49 : decode cX13_common 49 = .ok (.ireturn, 1) := by decide +kernel
theorem dX13_common_50 : decode cX13_common 50 = .ok (.aload_n 0, 1) := by decide +kernel
theorem dX13_common_51 : decode cX13_common 51 = .ok (.iload_n 1, 1) := by decide +kernel
theorem dX13_common_52 : decode cX13_common 52 = .ok (.iload_n 2, 1) := by decide +kernel
theorem dX13_common_53 : decode cX13_common 53 = .ok (.iconst 3, 1) := by decide +kernel
theorem dX13_common_54 : decode cX13_common 54 = .ok (.iload_n 3, 1) := by decide +kernel
theorem dX13_common_55 : decode cX13_common 55 = .ok (.iload 4, 2) := by decide +kernel
theorem dX13_common_57 : decode cX13_common 57 = .ok (.iconst 0, 1) := by decide +kernel
theorem dX13_common_58 : decode cX13_common 58 = .ok (.invokevirtual 115, 3) := by decide +kernel
theorem dX13_common_61 : decode cX13_common 61 = .ok (.pop, 1) := by decide +kernel
theorem dX13_common_62 : decode cX13_common 62 = .ok (.aload_n 0, 1) := by decide +kernel
theorem dX13_common_63 : decode cX13_common 63 = .ok (.getfield 81, 3) := by decide +kernel
theorem dX13_common_66 : decode cX13_common 66 = .ok (.ifCond .le 7, 3) := by decide +kernel
theorem dX13_common_69 : decode cX13_common 69 = .ok (.iconst 0, 1) := by decide +kernel
theorem dX13_common_70 : decode cX13_common 70 = .ok (.goto 8, 3) := by decide +kernel
theorem dX13_common_73 : decode cX13_common 73 = .ok (.aload_n 0, 1) := by decide +kernel
theorem dX13_common_74 : decode cX13_common 74 = .ok (.iload_n 1, 1) := by decide +kernel
theorem dX13_common_75 : decode cX13_common 75 = .ok (.invokevirtual 119, 3) := by decide +kernel
theorem dX13_common_78 : decode cX13_common 78 = .ok (.ireturn, 1) := by decide +kernel
def g_X13_common : Nat → EA := (t_n 44 (t_n 19 (t_n 7 (t_n 2 (t_n 1 (t_l 0 (a_aload 1 0)) (t_l 1 (a_push 1 (.int 0)))) (t_n 5 (t_l 2 (a_putf 0 13 0)) (t_n 6 (t_l 5 (a_aload 1 0)) (t_l 6 (a_iload 1 1))))) (t_n 14 (t_n 10 (t_l 7 (a_inv true 233 2 (some 13))) (t_n 13 (t_l 10 (a_if 19 (fun x => !decide (x = 0)))) (t_l 13 (a_aload 1 0)))) (t_n 15 (t_l 14 (a_push 1 (.int 1))) (t_n 18 (t_l 15 (a_inv true 229 2 (some 13))) (t_l 18 a_iret))))) (t_n 28 (t_n 23 (t_n 20 (t_l 19 (a_iload 1 2)) (t_l 20 (a_inv true 235 1 none))) (t_n 26 (t_l 23 (a_if 44 (fun x => decide (x = 0)))) (t_n 27 (t_l 26 (a_iload 1 3)) (t_l 27 (a_push 1 (.int 1)))))) (t_n 36 (t_n 30 (t_l 28 (a_push 2 (.int 40))) (t_n 33 (t_l 30 (a_inv true 230 3 none)) (t_l 33 (a_if 44 (fun x => decide (x = 0)))))) (t_n 38 (t_l 36 (a_iload 2 4)) (t_n 41 (t_l 38 (a_inv true 232 1 none)) (t_l 41 (a_if 50 (fun x => !decide (x = 0))))))))) (t_n 58 (t_n 51 (t_n 46 (t_n 45 (t_l 44 (a_aload 1 0)) (t_l 45 (a_push 1 (.int 2)))) (t_n 49 (t_l 46 (a_inv true 229 2 (some 13))) (t_n 50 (t_l 49 a_iret) (t_l 50 (a_aload 1 0))))) (t_n 54 (t_n 52 (t_l 51 (a_iload 1 1)) (t_n 53 (t_l 52 (a_iload 1 2)) (t_l 53 (a_push 1 (.int 3))))) (t_n 55 (t_l 54 (a_iload 1 3)) (t_n 57 (t_l 55 (a_iload 2 4)) (t_l 57 (a_push 1 (.int 0))))))) (t_n 69 (t_n 62 (t_n 61 (t_l 58 (a_inv true 242 7 (some 13))) (t_l 61 a_pop)) (t_n 63 (t_l 62 (a_aload 1 0)) (t_n 66 (t_l 63 (a_getf 13 0)) (t_l 66 (a_if 73 (fun x => decide (x ≤ 0))))))) (t_n 74 (t_n 70 (t_l 69 (a_push 1 (.int 0))) (t_n 73 (t_l 70 (a_goto 78)) (t_l 73 (a_aload 1 0)))) (t_n 75 (t_l 74 (a_iload 1 1)) (t_n 78 (t_l 75 (a_inv true 244 2 (some 13))) (t_l 78 a_iret)))))))
set_option maxRecDepth 100000 in
theorem k_X13_common (d : Nat) : ∀ pc, ev_Ok cX13_common 5 [] RX13 lw_g lw_n lw_q vwCl false (ev_CO mt lw_g lw_n lw_q vwCl d) pc (g_X13_common pc) := (ok_t_n (ok_t_n (ok_t_n (ok_t_n (ok_t_n (ok_t_l (ok_aload_n dX13_common_0 rfl)) (ok_t_l (ok_iconst dX13_common_1 rfl))) (ok_t_n (ok_t_l (ok_putfield dX13_common_2 (ci := 13) (kf := 0) rfl inGX13 (by decide) tyX13_ok nmX13 rfl w_1559 rfl)) (ok_t_n (ok_t_l (ok_aload_n dX13_common_5 rfl)) (ok_t_l (ok_iload_n dX13_common_6 rfl))))) (ok_t_n (ok_t_n (ok_t_l (ok_inv (run_V (y := 233) (n := 1) (ci := 13) dX13_common_7 cz_233 gdG cc_233 ci_233 w_1680 cm_233 cs_233 cd_233 cl_233 rfl rfl))) (ok_t_n (ok_t_l (ok_if_ne dX13_common_10 rfl)) (ok_t_l (ok_aload_n dX13_common_13 rfl)))) (ok_t_n (ok_t_l (ok_iconst dX13_common_14 rfl)) (ok_t_n (ok_t_l (ok_inv (run_V (y := 229) (n := 1) (ci := 13) dX13_common_15 cz_229 gdG cc_229 ci_229 w_1672 cm_229 cs_229 cd_229 cl_229 rfl rfl))) (ok_t_l (ok_ireturn dX13_common_18)))))) (ok_t_n (ok_t_n (ok_t_n (ok_t_l (ok_iload_n dX13_common_19 rfl)) (ok_t_l (ok_inv (run_S (y := 235) (n := 1) dX13_common_20 cz_235 gdG cc_235 ci_235 w_1706 cm_235 cd_235 cl_235)))) (ok_t_n (ok_t_l (ok_if_eq dX13_common_23 rfl)) (ok_t_n (ok_t_l (ok_iload_n dX13_common_26 rfl)) (ok_t_l (ok_iconst dX13_common_27 rfl))))) (ok_t_n (ok_t_n (ok_t_l (ok_bipush dX13_common_28 rfl)) (ok_t_n (ok_t_l (ok_inv (run_S (y := 230) (n := 3) dX13_common_30 cz_230 gdG cc_230 ci_230 w_1684 cm_230 cd_230 cl_230))) (ok_t_l (ok_if_eq dX13_common_33 rfl)))) (ok_t_n (ok_t_l (ok_iload dX13_common_36)) (ok_t_n (ok_t_l (ok_inv (run_S (y := 232) (n := 1) dX13_common_38 cz_232 gdG cc_232 ci_232 w_1687 cm_232 cd_232 cl_232))) (ok_t_l (ok_if_ne dX13_common_41 rfl))))))) (ok_t_n (ok_t_n (ok_t_n (ok_t_n (ok_t_l (ok_aload_n dX13_common_44 rfl)) (ok_t_l (ok_iconst dX13_common_45 rfl))) (ok_t_n (ok_t_l (ok_inv (run_V (y := 229) (n := 1) (ci := 13) dX13_common_46 cz_229 gdG cc_229 ci_229 w_1672 cm_229 cs_229 cd_229 cl_229 rfl rfl))) (ok_t_n (ok_t_l (ok_ireturn dX13_common_49)) (ok_t_l (ok_aload_n dX13_common_50 rfl))))) (ok_t_n (ok_t_n (ok_t_l (ok_iload_n dX13_common_51 rfl)) (ok_t_n (ok_t_l (ok_iload_n dX13_common_52 rfl)) (ok_t_l (ok_iconst dX13_common_53 rfl)))) (ok_t_n (ok_t_l (ok_iload_n dX13_common_54 rfl)) (ok_t_n (ok_t_l (ok_iload dX13_common_55)) (ok_t_l (ok_iconst dX13_common_57 rfl)))))) (ok_t_n (ok_t_n (ok_t_n (ok_t_l (ok_inv (run_V (y := 242) (n := 6) (ci := 13) dX13_common_58 cz_242 gdG cc_242 ci_242 w_1717 cm_242 cs_242 cd_242 cl_242 rfl rfl))) (ok_t_l (ok_pop dX13_common_61))) (ok_t_n (ok_t_l (ok_aload_n dX13_common_62 rfl)) (ok_t_n (ok_t_l (ok_getfield dX13_common_63 (ci := 13) (kf := 0) rfl inGX13 (by decide) w_1559)) (ok_t_l (ok_if_le dX13_common_66 rfl))))) (ok_t_n (ok_t_n (ok_t_l (ok_iconst dX13_common_69 rfl)) (ok_t_n (ok_t_l (ok_goto dX13_common_70 rfl)) (ok_t_l (ok_aload_n dX13_common_73 rfl)))) (ok_t_n (ok_t_l (ok_iload_n dX13_common_74 rfl)) (ok_t_n (ok_t_l (ok_inv (run_V (y := 244) (n := 1) (ci := 13) dX13_common_75 cz_244 gdG cc_244 ci_244 w_1725 cm_244 cs_244 cd_244 cl_244 rfl rfl))) (ok_t_l (ok_ireturn dX13_common_78))))))))
theorem dX13_itemOf_0 : decode cX13_itemOf 0 = .ok (.iconst 0, 1) := by decide +kernel
theorem dX13_itemOf_1 : decode cX13_itemOf 1 = .ok (.istore_n 2, 1) := by decide +kernel
theorem dX13_itemOf_2 : decode cX13_itemOf 2 = .ok (.iload_n 2, 1) := by decide +kernel
theorem dX13_itemOf_3 : decode cX13_itemOf 3 = .ok (.aload_n 0, 1) := by decide +kernel
theorem dX13_itemOf_4 : decode cX13_itemOf 4 = .ok (.getfield 122, 3) := by decide +kernel
theorem dX13_itemOf_7 : decode cX13_itemOf 7 = .ok (.if_icmp .ge 24, 3) := by decide +kernel
theorem dX13_itemOf_10 : decode cX13_itemOf 10 = .ok (.aload_n 0, 1) := by decide +kernel
theorem dX13_itemOf_11 : decode cX13_itemOf 11 = .ok (.getfield 38, 3) := by decide +kernel
theorem dX13_itemOf_14 : decode cX13_itemOf 14 = .ok (.iload_n 2, 1) := by decide +kernel
theorem dX13_itemOf_15 : decode cX13_itemOf 15 = .ok (.iaload, 1) := by decide +kernel
theorem dX13_itemOf_16 : decode cX13_itemOf 16 = .ok (.iload_n 1, 1) := by decide +kernel
theorem dX13_itemOf_17 : decode cX13_itemOf 17 = .ok (.invokestatic 125, 3) := by decide +kernel
theorem dX13_itemOf_20 : decode cX13_itemOf 20 = .ok (.ifCond .eq 5, 3) := by decide +kernel
theorem dX13_itemOf_23 : decode cX13_itemOf 23 = .ok (.iload_n 2, 1) := by decide +kernel
theorem dX13_itemOf_24 : decode cX13_itemOf 24 = .ok (.ireturn, 1) := by decide +kernel
theorem dX13_itemOf_25 : decode cX13_itemOf 25 = .ok (.iinc 2 1, 3) := by decide +kernel
theorem dX13_itemOf_28 : decode cX13_itemOf 28 = .ok (.goto (-26), 3) := by decide +kernel
theorem dX13_itemOf_31 : decode cX13_itemOf 31 = .ok (.iconst (-1), 1) := by decide +kernel
theorem dX13_itemOf_32 : decode cX13_itemOf 32 = .ok (.ireturn, 1) := by decide +kernel
def g_X13_itemOf : Nat → EA := (t_n 15 (t_n 4 (t_n 2 (t_n 1 (t_l 0 (a_push 1 (.int 0))) (t_l 1 (a_istore 3 1 2))) (t_n 3 (t_l 2 (a_iload 1 2)) (t_l 3 (a_aload 1 0)))) (t_n 10 (t_n 7 (t_l 4 (a_getf 13 3)) (t_l 7 (a_ic 31 (fun x y => decide (y ≤ x))))) (t_n 11 (t_l 10 (a_aload 1 0)) (t_n 14 (t_l 11 (a_getf 13 13)) (t_l 14 (a_iload 1 2)))))) (t_n 24 (t_n 17 (t_n 16 (t_l 15 (a_ild 0)) (t_l 16 (a_iload 1 1))) (t_n 20 (t_l 17 (a_inv true 231 2 none)) (t_n 23 (t_l 20 (a_if 25 (fun x => decide (x = 0)))) (t_l 23 (a_iload 1 2))))) (t_n 28 (t_n 25 (t_l 24 a_iret) (t_l 25 (a_iinc 3 2 1))) (t_n 31 (t_l 28 (a_goto 2)) (t_n 32 (t_l 31 (a_push 1 (.int (-1)))) (t_l 32 a_iret))))))
set_option maxRecDepth 100000 in
theorem k_X13_itemOf (d : Nat) : ∀ pc, ev_Ok cX13_itemOf 3 [] RX13 lw_g lw_n lw_q vwCl false (ev_CO mt lw_g lw_n lw_q vwCl d) pc (g_X13_itemOf pc) := (ok_t_n (ok_t_n (ok_t_n (ok_t_n (ok_t_l (ok_iconst dX13_itemOf_0 rfl)) (ok_t_l (ok_istore_n dX13_itemOf_1 rfl))) (ok_t_n (ok_t_l (ok_iload_n dX13_itemOf_2 rfl)) (ok_t_l (ok_aload_n dX13_itemOf_3 rfl)))) (ok_t_n (ok_t_n (ok_t_l (ok_getfield dX13_itemOf_4 (ci := 13) (kf := 3) rfl inGX13 (by decide) w_1565)) (ok_t_l (ok_icmp_ge dX13_itemOf_7 rfl))) (ok_t_n (ok_t_l (ok_aload_n dX13_itemOf_10 rfl)) (ok_t_n (ok_t_l (ok_getfield dX13_itemOf_11 (ci := 13) (kf := 13) rfl inGX13 (by decide) w_1584)) (ok_t_l (ok_iload_n dX13_itemOf_14 rfl)))))) (ok_t_n (ok_t_n (ok_t_n (ok_t_l (ok_iaload dX13_itemOf_15)) (ok_t_l (ok_iload_n dX13_itemOf_16 rfl))) (ok_t_n (ok_t_l (ok_inv (run_S (y := 231) (n := 2) dX13_itemOf_17 cz_231 gdG cc_231 ci_231 w_1753 cm_231 cd_231 cl_231))) (ok_t_n (ok_t_l (ok_if_eq dX13_itemOf_20 rfl)) (ok_t_l (ok_iload_n dX13_itemOf_23 rfl))))) (ok_t_n (ok_t_n (ok_t_l (ok_ireturn dX13_itemOf_24)) (ok_t_l (ok_iinc dX13_itemOf_25 rfl))) (ok_t_n (ok_t_l (ok_goto dX13_itemOf_28 rfl)) (ok_t_n (ok_t_l (ok_iconst dX13_itemOf_31 rfl)) (ok_t_l (ok_ireturn dX13_itemOf_32)))))))
theorem dX13_item_0 : decode cX13_item 0 = .ok (.aload_n 0, 1) := by decide +kernel
theorem dX13_item_1 : decode cX13_item 1 = .ok (.iconst 0, 1) := by decide +kernel
theorem dX13_item_2 : decode cX13_item 2 = .ok (.putfield 81, 3) := by decide +kernel
theorem dX13_item_5 : decode cX13_item 5 = .ok (.iload_n 1, 1) := by decide +kernel
theorem dX13_item_6 : decode cX13_item 6 = .ok (.iconst 1, 1) := by decide +kernel
theorem dX13_item_7 : decode cX13_item 7 = .ok (.iconst 1, 1) := by decide +kernel
theorem dX13_item_8 : decode cX13_item 8 = .ok (.aload_n 0, 1) := by decide +kernel
theorem dX13_item_9 : decode cX13_item 9 = .ok (.getfield 84, 3) := by decide +kernel
theorem dX13_item_12 : decode cX13_item 12 = .ok (.ishl, 1) := by decide +kernel
theorem dX13_item_13 : decode cX13_item 13 = .ok (.iconst 1, 1) := by decide +kernel
theorem dX13_item_14 : decode cX13_item 14 = .ok (.isub, 1) := by decide +kernel
theorem dX13_item_15 : decode cX13_item 15 = .ok (.invokestatic 87, 3) := by decide +kernel
theorem dX13_item_18 : decode cX13_item 18 = .ok (.ifCond .eq 12, 3) := by decide +kernel
theorem dX13_item_21 : decode cX13_item 21 = .ok (.iload_n 2, 1) := by decide +kernel
theorem dX13_item_22 : decode cX13_item 22 = .ok (.iconst 0, 1) := by decide +kernel
theorem dX13_item_23 : decode cX13_item 23 = .ok (.iconst 2, 1) := by decide +kernel
theorem dX13_item_24 : decode cX13_item 24 = .ok (.invokestatic 87, 3) := by decide +kernel
theorem dX13_item_27 : decode cX13_item 27 = .ok (.ifCond .ne 9, 3) := by decide +kernel
theorem dX13_item_30 : decode cX13_item 30 = .ok (.aload_n 0, 1) := by decide +kernel
theorem dX13_item_31 : decode cX13_item 31 = .ok (.iconst 1, 1) := by decide +kernel
theorem dX13_item_32 : decode cX13_item 32 = .ok (.invokevirtual 94, 3) := by decide +kernel
theorem dX13_item_35 : decode cX13_item 35 = .ok (.ireturn, 1) := by decide +kernel
theorem dX13_item_36 : decode cX13_item 36 = .ok (.aload_n 0, 1) := by decide +kernel
theorem dX13_item_37 : decode cX13_item 37 = .ok (.getfield 122, 3) := by decide +kernel
theorem dX13_item_40 : decode cX13_item 40 = .ok (.bipush 8, 2) := by decide +kernel
theorem dX13_item_42 : decode cX13_item 42 = .ok (.if_icmp .ne 9, 3) := by decide +kernel
theorem dX13_item_45 : decode cX13_item 45 = .ok (.aload_n 0, 1) := by decide +kernel
theorem dX13_item_46 : decode cX13_item 46 = .ok (.iconst 2, 1) := by decide +kernel
theorem dX13_item_47 : decode cX13_item 47 = .ok (.invokevirtual 94, 3) := by decide +kernel
theorem dX13_item_50 : decode cX13_item 50 = .ok (.ireturn, 1) := by decide +kernel
theorem dX13_item_51 : decode cX13_item 51 = .ok (.iconst 0, 1) := by decide +kernel
theorem dX13_item_52 : decode cX13_item 52 = .ok (.istore_n 3, 1) := by decide +kernel
theorem dX13_item_53 : decode cX13_item 53 = .ok (.iload_n 3, 1) := by decide +kernel
theorem dX13_item_54 : decode cX13_item 54 = .ok (.aload_n 0, 1) := by decide +kernel
theorem dX13_item_55 : decode cX13_item 55 = .ok (.getfield 122, 3) := by decide +kernel
theorem dX13_item_58 : decode cX13_item 58 = .ok (.if_icmp .ge 26, 3) := by decide +kernel
theorem dX13_item_61 : decode cX13_item 61 = .ok (.aload_n 0, 1) := by decide +kernel
theorem dX13_item_62 : decode cX13_item 62 = .ok (.getfield 38, 3) := by decide +kernel
theorem dX13_item_65 : decode cX13_item 65 = .ok (.iload_n 3, 1) := by decide +kernel
theorem dX13_item_66 : decode cX13_item 66 = .ok (.iaload, 1) := by decide +kernel
theorem dX13_item_67 : decode cX13_item 67 = .ok (.iload_n 1, 1) := by decide +kernel
theorem dX13_item_68 : decode cX13_item 68 = .ok (.iand, 1) := by decide +kernel
theorem dX13_item_69 : decode cX13_item 69 = .ok (.ifCond .eq 9, 3) := by decide +kernel
theorem dX13_item_72 : decode cX13_item 72 = .ok (.aload_n 0, 1) := by decide +kernel
theorem dX13_item_73 : decode cX13_item 73 = .ok (.iconst 2, 1) := by decide +kernel
theorem dX13_item_74 : decode cX13_item 74 = .ok (.invokevirtual 94, 3) := by decide +kernel
theorem dX13_item_77 : decode cX13_item 77 = .ok (.ireturn, 1) := by decide +kernel
theorem dX13_item_78 : decode cX13_item 78 = .ok (.iinc 3 1, 3) := by decide +kernel
theorem dX13_item_81 : decode cX13_item 81 = .ok (.goto (-28), 3) := by decide +kernel
theorem dX13_item_84 : decode cX13_item 84 = .ok (.aload_n 0, 1) := by decide +kernel
theorem dX13_item_85 : decode cX13_item 85 = .ok (.getfield 38, 3) := by decide +kernel
theorem dX13_item_88 : decode cX13_item 88 = .ok (.aload_n 0, 1) := by decide +kernel
theorem dX13_item_89 : decode cX13_item 89 = .ok (.getfield 122, 3) := by decide +kernel
theorem dX13_item_92 : decode cX13_item 92 = .ok (.iload_n 1, 1) := by decide +kernel
theorem dX13_item_93 : decode cX13_item 93 = .ok (.iastore, 1) := by decide +kernel
theorem dX13_item_94 : decode cX13_item 94 = .ok (.aload_n 0, 1) := by decide +kernel
theorem dX13_item_95 : decode cX13_item 95 = .ok (.getfield 41, 3) := by decide +kernel
theorem dX13_item_98 : decode cX13_item 98 = .ok (.aload_n 0, 1) := by decide +kernel
theorem dX13_item_99 : decode cX13_item 99 = .ok (.getfield 122, 3) := by decide +kernel
theorem dX13_item_102 : decode cX13_item 102 = .ok (.iload_n 2, 1) := by decide +kernel
theorem dX13_item_103 : decode cX13_item 103 = .ok (.iastore, 1) := by decide +kernel
theorem dX13_item_104 : decode cX13_item 104 = .ok (.aload_n 0, 1) := by decide +kernel
theorem dX13_item_105 : decode cX13_item 105 = .ok (.dup, 1) := by decide +kernel
theorem dX13_item_106 : decode cX13_item 106 = .ok (.getfield 122, 3) := by decide +kernel
theorem dX13_item_109 : decode cX13_item 109 = .ok (.dup_x1, 1) := by decide +kernel
theorem dX13_item_110 : decode cX13_item 110 = .ok (.iconst 1, 1) := by decide +kernel
theorem dX13_item_111 : decode cX13_item 111 = .ok (.iadd, 1) := by decide +kernel
theorem dX13_item_112 : decode cX13_item 112 = .ok (.putfield 122, 3) := by decide +kernel
theorem dX13_item_115 : decode cX13_item 115 = .ok (.ireturn, 1) := by decide +kernel
def g_X13_item : Nat → EA := (t_n 55 (t_n 27 (t_n 12 (t_n 6 (t_n 2 (t_n 1 (t_l 0 (a_aload 1 0)) (t_l 1 (a_push 1 (.int 0)))) (t_n 5 (t_l 2 (a_putf 0 13 0)) (t_l 5 (a_iload 1 1)))) (t_n 8 (t_n 7 (t_l 6 (a_push 1 (.int 1))) (t_l 7 (a_push 1 (.int 1)))) (t_n 9 (t_l 8 (a_aload 1 0)) (t_l 9 (a_getf 13 1))))) (t_n 18 (t_n 14 (t_n 13 (t_l 12 (a_ii 1 (fun x y => x <<< (y &&& 31)))) (t_l 13 (a_push 1 (.int 1)))) (t_n 15 (t_l 14 (a_ii 1 (fun x y => x - y))) (t_l 15 (a_inv true 230 3 none)))) (t_n 22 (t_n 21 (t_l 18 (a_if 30 (fun x => decide (x = 0)))) (t_l 21 (a_iload 1 2))) (t_n 23 (t_l 22 (a_push 1 (.int 0))) (t_n 24 (t_l 23 (a_push 1 (.int 2))) (t_l 24 (a_inv true 230 3 none))))))) (t_n 42 (t_n 35 (t_n 31 (t_n 30 (t_l 27 (a_if 36 (fun x => !decide (x = 0)))) (t_l 30 (a_aload 1 0))) (t_n 32 (t_l 31 (a_push 1 (.int 1))) (t_l 32 (a_inv true 229 2 (some 13))))) (t_n 37 (t_n 36 (t_l 35 a_iret) (t_l 36 (a_aload 1 0))) (t_n 40 (t_l 37 (a_getf 13 3)) (t_l 40 (a_push 2 (.int 8)))))) (t_n 50 (t_n 46 (t_n 45 (t_l 42 (a_ic 51 (fun x y => !decide (x = y)))) (t_l 45 (a_aload 1 0))) (t_n 47 (t_l 46 (a_push 1 (.int 2))) (t_l 47 (a_inv true 229 2 (some 13))))) (t_n 52 (t_n 51 (t_l 50 a_iret) (t_l 51 (a_push 1 (.int 0)))) (t_n 53 (t_l 52 (a_istore 4 1 3)) (t_n 54 (t_l 53 (a_iload 1 3)) (t_l 54 (a_aload 1 0)))))))) (t_n 88 (t_n 69 (t_n 65 (t_n 61 (t_n 58 (t_l 55 (a_getf 13 3)) (t_l 58 (a_ic 84 (fun x y => decide (y ≤ x))))) (t_n 62 (t_l 61 (a_aload 1 0)) (t_l 62 (a_getf 13 13)))) (t_n 67 (t_n 66 (t_l 65 (a_iload 1 3)) (t_l 66 (a_ild 0))) (t_n 68 (t_l 67 (a_iload 1 1)) (t_l 68 (a_ii 1 (fun x y => x &&& y)))))) (t_n 77 (t_n 73 (t_n 72 (t_l 69 (a_if 78 (fun x => decide (x = 0)))) (t_l 72 (a_aload 1 0))) (t_n 74 (t_l 73 (a_push 1 (.int 2))) (t_l 74 (a_inv true 229 2 (some 13))))) (t_n 81 (t_n 78 (t_l 77 a_iret) (t_l 78 (a_iinc 4 3 1))) (t_n 84 (t_l 81 (a_goto 53)) (t_n 85 (t_l 84 (a_aload 1 0)) (t_l 85 (a_getf 13 13))))))) (t_n 103 (t_n 94 (t_n 92 (t_n 89 (t_l 88 (a_aload 1 0)) (t_l 89 (a_getf 13 3))) (t_n 93 (t_l 92 (a_iload 1 1)) (t_l 93 (a_ist 0)))) (t_n 98 (t_n 95 (t_l 94 (a_aload 1 0)) (t_l 95 (a_getf 13 14))) (t_n 99 (t_l 98 (a_aload 1 0)) (t_n 102 (t_l 99 (a_getf 13 3)) (t_l 102 (a_iload 1 2)))))) (t_n 109 (t_n 105 (t_n 104 (t_l 103 (a_ist 0)) (t_l 104 (a_aload 1 0))) (t_n 106 (t_l 105 a_dup) (t_l 106 (a_getf 13 3)))) (t_n 111 (t_n 110 (t_l 109 a_dupx1) (t_l 110 (a_push 1 (.int 1)))) (t_n 112 (t_l 111 (a_ii 1 (fun x y => x + y))) (t_n 115 (t_l 112 (a_putf 0 13 3)) (t_l 115 a_iret))))))))
set_option maxRecDepth 100000 in
theorem k_X13_item (d : Nat) : ∀ pc, ev_Ok cX13_item 4 [] RX13 lw_g lw_n lw_q vwCl false (ev_CO mt lw_g lw_n lw_q vwCl d) pc (g_X13_item pc) := (ok_t_n (ok_t_n (ok_t_n (ok_t_n (ok_t_n (ok_t_n (ok_t_l (ok_aload_n dX13_item_0 rfl)) (ok_t_l (ok_iconst dX13_item_1 rfl))) (ok_t_n (ok_t_l (ok_putfield dX13_item_2 (ci := 13) (kf := 0) rfl inGX13 (by decide) tyX13_ok nmX13 rfl w_1559 rfl)) (ok_t_l (ok_iload_n dX13_item_5 rfl)))) (ok_t_n (ok_t_n (ok_t_l (ok_iconst dX13_item_6 rfl)) (ok_t_l (ok_iconst dX13_item_7 rfl))) (ok_t_n (ok_t_l (ok_aload_n dX13_item_8 rfl)) (ok_t_l (ok_getfield dX13_item_9 (ci := 13) (kf := 1) rfl inGX13 (by decide) w_1561))))) (ok_t_n (ok_t_n (ok_t_n (ok_t_l (ok_ishl dX13_item_12)) (ok_t_l (ok_iconst dX13_item_13 rfl))) (ok_t_n (ok_t_l (ok_isub dX13_item_14)) (ok_t_l (ok_inv (run_S (y := 230) (n := 3) dX13_item_15 cz_230 gdG cc_230 ci_230 w_1684 cm_230 cd_230 cl_230))))) (ok_t_n (ok_t_n (ok_t_l (ok_if_eq dX13_item_18 rfl)) (ok_t_l (ok_iload_n dX13_item_21 rfl))) (ok_t_n (ok_t_l (ok_iconst dX13_item_22 rfl)) (ok_t_n (ok_t_l (ok_iconst dX13_item_23 rfl)) (ok_t_l (ok_inv (run_S (y := 230) (n := 3) dX13_item_24 cz_230 gdG cc_230 ci_230 w_1684 cm_230 cd_230 cl_230)))))))) (ok_t_n (ok_t_n (ok_t_n (ok_t_n (ok_t_l (ok_if_ne dX13_item_27 rfl)) (ok_t_l (ok_aload_n dX13_item_30 rfl))) (ok_t_n (ok_t_l (ok_iconst dX13_item_31 rfl)) (ok_t_l (ok_inv (run_V (y := 229) (n := 1) (ci := 13) dX13_item_32 cz_229 gdG cc_229 ci_229 w_1672 cm_229 cs_229 cd_229 cl_229 rfl rfl))))) (ok_t_n (ok_t_n (ok_t_l (ok_ireturn dX13_item_35)) (ok_t_l (ok_aload_n dX13_item_36 rfl))) (ok_t_n (ok_t_l (ok_getfield dX13_item_37 (ci := 13) (kf := 3) rfl inGX13 (by decide) w_1565)) (ok_t_l (ok_bipush dX13_item_40 rfl))))) (ok_t_n (ok_t_n (ok_t_n (ok_t_l (ok_icmp_ne dX13_item_42 rfl)) (ok_t_l (ok_aload_n dX13_item_45 rfl))) (ok_t_n (ok_t_l (ok_iconst dX13_item_46 rfl)) (ok_t_l (ok_inv (run_V (y := 229) (n := 1) (ci := 13) dX13_item_47 cz_229 gdG cc_229 ci_229 w_1672 cm_229 cs_229 cd_229 cl_229 rfl rfl))))) (ok_t_n (ok_t_n (ok_t_l (ok_ireturn dX13_item_50)) (ok_t_l (ok_iconst dX13_item_51 rfl))) (ok_t_n (ok_t_l (ok_istore_n dX13_item_52 rfl)) (ok_t_n (ok_t_l (ok_iload_n dX13_item_53 rfl)) (ok_t_l (ok_aload_n dX13_item_54 rfl)))))))) (ok_t_n (ok_t_n (ok_t_n (ok_t_n (ok_t_n (ok_t_l (ok_getfield dX13_item_55 (ci := 13) (kf := 3) rfl inGX13 (by decide) w_1565)) (ok_t_l (ok_icmp_ge dX13_item_58 rfl))) (ok_t_n (ok_t_l (ok_aload_n dX13_item_61 rfl)) (ok_t_l (ok_getfield dX13_item_62 (ci := 13) (kf := 13) rfl inGX13 (by decide) w_1584)))) (ok_t_n (ok_t_n (ok_t_l (ok_iload_n dX13_item_65 rfl)) (ok_t_l (ok_iaload dX13_item_66))) (ok_t_n (ok_t_l (ok_iload_n dX13_item_67 rfl)) (ok_t_l (ok_iand dX13_item_68))))) (ok_t_n (ok_t_n (ok_t_n (ok_t_l (ok_if_eq dX13_item_69 rfl)) (ok_t_l (ok_aload_n dX13_item_72 rfl))) (ok_t_n (ok_t_l (ok_iconst dX13_item_73 rfl)) (ok_t_l (ok_inv (run_V (y := 229) (n := 1) (ci := 13) dX13_item_74 cz_229 gdG cc_229 ci_229 w_1672 cm_229 cs_229 cd_229 cl_229 rfl rfl))))) (ok_t_n (ok_t_n (ok_t_l (ok_ireturn dX13_item_77)) (ok_t_l (ok_iinc dX13_item_78 rfl))) (ok_t_n (ok_t_l (ok_goto dX13_item_81 rfl)) (ok_t_n (ok_t_l (ok_aload_n dX13_item_84 rfl)) (ok_t_l (ok_getfield dX13_item_85 (ci := 13) (kf := 13) rfl inGX13 (by decide) w_1584))))))) (ok_t_n (ok_t_n (ok_t_n (ok_t_n (ok_t_l (ok_aload_n dX13_item_88 rfl)) (ok_t_l (ok_getfield dX13_item_89 (ci := 13) (kf := 3) rfl inGX13 (by decide) w_1565))) (ok_t_n (ok_t_l (ok_iload_n dX13_item_92 rfl)) (ok_t_l (ok_iastore dX13_item_93)))) (ok_t_n (ok_t_n (ok_t_l (ok_aload_n dX13_item_94 rfl)) (ok_t_l (ok_getfield dX13_item_95 (ci := 13) (kf := 14) rfl inGX13 (by decide) w_1586))) (ok_t_n (ok_t_l (ok_aload_n dX13_item_98 rfl)) (ok_t_n (ok_t_l (ok_getfield dX13_item_99 (ci := 13) (kf := 3) rfl inGX13 (by decide) w_1565)) (ok_t_l (ok_iload_n dX13_item_102 rfl)))))) (ok_t_n (ok_t_n (ok_t_n (ok_t_l (ok_iastore dX13_item_103)) (ok_t_l (ok_aload_n dX13_item_104 rfl))) (ok_t_n (ok_t_l (ok_dup dX13_item_105)) (ok_t_l (ok_getfield dX13_item_106 (ci := 13) (kf := 3) rfl inGX13 (by decide) w_1565)))) (ok_t_n (ok_t_n (ok_t_l (ok_dup_x1 dX13_item_109)) (ok_t_l (ok_iconst dX13_item_110 rfl))) (ok_t_n (ok_t_l (ok_iadd dX13_item_111)) (ok_t_n (ok_t_l (ok_putfield dX13_item_112 (ci := 13) (kf := 3) rfl inGX13 (by decide) tyX13_ok nmX13 rfl w_1565 rfl)) (ok_t_l (ok_ireturn dX13_item_115)))))))))
theorem dX13_clear_0 : decode cX13_clear 0 = .ok (.aload_n 0, 1) := by decide +kernel
theorem dX13_clear_1 : decode cX13_clear 1 = .ok (.iconst 0, 1) := by decide +kernel
theorem dX13_clear_2 : decode cX13_clear 2 = .ok (.putfield 81, 3) := by decide +kernel
theorem dX13_clear_5 : decode cX13_clear 5 = .ok (.aload_n 0, 1) := by decide +kernel
theorem dX13_clear_6 : decode cX13_clear 6 = .ok (.getfield 122, 3) := by decide +kernel
theorem dX13_clear_9 : decode cX13_clear 9 = .ok (.istore_n 1, 1) := by decide +kernel
theorem dX13_clear_10 : decode cX13_clear 10 = .ok (.aload_n 0, 1) := by decide +kernel
theorem dX13_clear_11 : decode cX13_clear 11 = .ok (.iconst 0, 1) := by decide +kernel
theorem dX13_clear_12 : decode cX13_clear 12 = .ok (.putfield 122, 3) := by decide +kernel
theorem dX13_clear_15 : decode cX13_clear 15 = .ok (.iload_n 1, 1) := by decide +kernel
theorem dX13_clear_16 : decode cX13_clear 16 = .ok (.ireturn, 1) := by decide +kernel
def g_X13_clear : Nat → EA := (t_n 9 (t_n 2 (t_n 1 (t_l 0 (a_aload 1 0)) (t_l 1 (a_push 1 (.int 0)))) (t_n 5 (t_l 2 (a_putf 0 13 0)) (t_n 6 (t_l 5 (a_aload 1 0)) (t_l 6 (a_getf 13 3))))) (t_n 12 (t_n 10 (t_l 9 (a_istore 2 1 1)) (t_n 11 (t_l 10 (a_aload 1 0)) (t_l 11 (a_push 1 (.int 0))))) (t_n 15 (t_l 12 (a_putf 0 13 3)) (t_n 16 (t_l 15 (a_iload 1 1)) (t_l 16 a_iret)))))
set_option maxRecDepth 100000 in
theorem k_X13_clear (d : Nat) : ∀ pc, ev_Ok cX13_clear 2 [] RX13 lw_g lw_n lw_q vwCl false (ev_CO mt lw_g lw_n lw_q vwCl d) pc (g_X13_clear pc) := (ok_t_n (ok_t_n (ok_t_n (ok_t_l (ok_aload_n dX13_clear_0 rfl)) (ok_t_l (ok_iconst dX13_clear_1 rfl))) (ok_t_n (ok_t_l (ok_putfield dX13_clear_2 (ci := 13) (kf := 0) rfl inGX13 (by decide) tyX13_ok nmX13 rfl w_1559 rfl)) (ok_t_n (ok_t_l (ok_aload_n dX13_clear_5 rfl)) (ok_t_l (ok_getfield dX13_clear_6 (ci := 13) (kf := 3) rfl inGX13 (by decide) w_1565))))) (ok_t_n (ok_t_n (ok_t_l (ok_istore_n dX13_clear_9 rfl)) (ok_t_n (ok_t_l (ok_aload_n dX13_clear_10 rfl)) (ok_t_l (ok_iconst dX13_clear_11 rfl)))) (ok_t_n (ok_t_l (ok_putfield dX13_clear_12 (ci := 13) (kf := 3) rfl inGX13 (by decide) tyX13_ok nmX13 rfl w_1565 rfl)) (ok_t_n (ok_t_l (ok_iload_n dX13_clear_15 rfl)) (ok_t_l (ok_ireturn dX13_clear_16))))))
theorem dX13_sectionsOf_0 : decode cX13_sectionsOf 0 = .ok (.iconst 0, 1) := by decide +kernel
theorem dX13_sectionsOf_1 : decode cX13_sectionsOf 1 = .ok (.istore_n 2, 1) := by decide +kernel
theorem dX13_sectionsOf_2 : decode cX13_sectionsOf 2 = .ok (.iconst 0, 1) := by decide +kernel
theorem dX13_sectionsOf_3 : decode cX13_sectionsOf 3 = .ok (.istore_n 3, 1) := by decide +kernel
theorem dX13_sectionsOf_4 : decode cX13_sectionsOf 4 = .ok (.iload_n 3, 1) := by decide +kernel
theorem dX13_sectionsOf_5 : decode cX13_sectionsOf 5 = .ok (.aload_n 0, 1) := by decide +kernel
theorem dX13_sectionsOf_6 : decode cX13_sectionsOf 6 = .ok (.getfield 91, 3) := by decide +kernel
theorem dX13_sectionsOf_9 : decode cX13_sectionsOf 9 = .ok (.if_icmp .ge 27, 3) := by decide +kernel
theorem dX13_sectionsOf_12 : decode cX13_sectionsOf 12 = .ok (.iload_n 2, 1) := by decide +kernel
theorem dX13_sectionsOf_13 : decode cX13_sectionsOf 13 = .ok (.aload_n 0, 1) := by decide +kernel
theorem dX13_sectionsOf_14 : decode cX13_sectionsOf 14 = .ok (.getfield 9, 3) := by decide +kernel
theorem dX13_sectionsOf_17 : decode cX13_sectionsOf 17 = .ok (.iload_n 3, 1) := by decide +kernel
theorem dX13_sectionsOf_18 : decode cX13_sectionsOf 18 = .ok (.iaload, 1) := by decide +kernel
theorem dX13_sectionsOf_19 : decode cX13_sectionsOf 19 = .ok (.iload_n 1, 1) := by decide +kernel
theorem dX13_sectionsOf_20 : decode cX13_sectionsOf 20 = .ok (.if_icmp .ne 7, 3) := by decide +kernel
theorem dX13_sectionsOf_23 : decode cX13_sectionsOf 23 = .ok (.iconst 1, 1) := by decide +kernel
theorem dX13_sectionsOf_24 : decode cX13_sectionsOf 24 = .ok (.goto 4, 3) := by decide +kernel
theorem dX13_sectionsOf_27 : decode cX13_sectionsOf 27 = .ok (.iconst 0, 1) := by decide +kernel
theorem dX13_sectionsOf_28 : decode cX13_sectionsOf 28 = .ok (.iadd, 1) := by decide +kernel
theorem dX13_sectionsOf_29 : decode cX13_sectionsOf 29 = .ok (.istore_n 2, 1) := by decide +kernel
theorem dX13_sectionsOf_30 : decode cX13_sectionsOf 30 = .ok (.iinc 3 1, 3) := by decide +kernel
theorem dX13_sectionsOf_33 : decode cX13_sectionsOf 33 = .ok (.goto (-29), 3) := by decide +kernel
theorem dX13_sectionsOf_36 : decode cX13_sectionsOf 36 = .ok (.iload_n 2, 1) := by decide +kernel
theorem dX13_sectionsOf_37 : decode cX13_sectionsOf 37 = .ok (.ireturn, 1) := by decide +kernel
def g_X13_sectionsOf : Nat → EA := (t_n 18 (t_n 6 (t_n 3 (t_n 1 (t_l 0 (a_push 1 (.int 0))) (t_n 2 (t_l 1 (a_istore 4 1 2)) (t_l 2 (a_push 1 (.int 0))))) (t_n 4 (t_l 3 (a_istore 4 1 3)) (t_n 5 (t_l 4 (a_iload 1 3)) (t_l 5 (a_aload 1 0))))) (t_n 13 (t_n 9 (t_l 6 (a_getf 13 2)) (t_n 12 (t_l 9 (a_ic 36 (fun x y => decide (y ≤ x)))) (t_l 12 (a_iload 1 2)))) (t_n 14 (t_l 13 (a_aload 1 0)) (t_n 17 (t_l 14 (a_getf 13 4)) (t_l 17 (a_iload 1 3)))))) (t_n 28 (t_n 23 (t_n 19 (t_l 18 (a_ild 0)) (t_n 20 (t_l 19 (a_iload 1 1)) (t_l 20 (a_ic 27 (fun x y => !decide (x = y)))))) (t_n 24 (t_l 23 (a_push 1 (.int 1))) (t_n 27 (t_l 24 (a_goto 28)) (t_l 27 (a_push 1 (.int 0)))))) (t_n 33 (t_n 29 (t_l 28 (a_ii 1 (fun x y => x + y))) (t_n 30 (t_l 29 (a_istore 4 1 2)) (t_l 30 (a_iinc 4 3 1)))) (t_n 36 (t_l 33 (a_goto 4)) (t_n 37 (t_l 36 (a_iload 1 2)) (t_l 37 a_iret))))))
set_option maxRecDepth 100000 in
theorem k_X13_sectionsOf (d : Nat) : ∀ pc, ev_Ok cX13_sectionsOf 4 [] RX13 lw_g lw_n lw_q vwCl false (ev_CO mt lw_g lw_n lw_q vwCl d) pc (g_X13_sectionsOf pc) := (ok_t_n (ok_t_n (ok_t_n (ok_t_n (ok_t_l (ok_iconst dX13_sectionsOf_0 rfl)) (ok_t_n (ok_t_l (ok_istore_n dX13_sectionsOf_1 rfl)) (ok_t_l (ok_iconst dX13_sectionsOf_2 rfl)))) (ok_t_n (ok_t_l (ok_istore_n dX13_sectionsOf_3 rfl)) (ok_t_n (ok_t_l (ok_iload_n dX13_sectionsOf_4 rfl)) (ok_t_l (ok_aload_n dX13_sectionsOf_5 rfl))))) (ok_t_n (ok_t_n (ok_t_l (ok_getfield dX13_sectionsOf_6 (ci := 13) (kf := 2) rfl inGX13 (by decide) w_1563)) (ok_t_n (ok_t_l (ok_icmp_ge dX13_sectionsOf_9 rfl)) (ok_t_l (ok_iload_n dX13_sectionsOf_12 rfl)))) (ok_t_n (ok_t_l (ok_aload_n dX13_sectionsOf_13 rfl)) (ok_t_n (ok_t_l (ok_getfield dX13_sectionsOf_14 (ci := 13) (kf := 4) rfl inGX13 (by decide) w_1566)) (ok_t_l (ok_iload_n dX13_sectionsOf_17 rfl)))))) (ok_t_n (ok_t_n (ok_t_n (ok_t_l (ok_iaload dX13_sectionsOf_18)) (ok_t_n (ok_t_l (ok_iload_n dX13_sectionsOf_19 rfl)) (ok_t_l (ok_icmp_ne dX13_sectionsOf_20 rfl)))) (ok_t_n (ok_t_l (ok_iconst dX13_sectionsOf_23 rfl)) (ok_t_n (ok_t_l (ok_goto dX13_sectionsOf_24 rfl)) (ok_t_l (ok_iconst dX13_sectionsOf_27 rfl))))) (ok_t_n (ok_t_n (ok_t_l (ok_iadd dX13_sectionsOf_28)) (ok_t_n (ok_t_l (ok_istore_n dX13_sectionsOf_29 rfl)) (ok_t_l (ok_iinc dX13_sectionsOf_30 rfl)))) (ok_t_n (ok_t_l (ok_goto dX13_sectionsOf_33 rfl)) (ok_t_n (ok_t_l (ok_iload_n dX13_sectionsOf_36 rfl)) (ok_t_l (ok_ireturn dX13_sectionsOf_37)))))))
theorem dX13_ofObjectNow_0 : decode cX13_ofObjectNow 0 = .ok (.iload_n 2, 1) := by decide +kernel
theorem dX13_ofObjectNow_1 : decode cX13_ofObjectNow 1 = .ok (.tableswitch 45 0 2 #[27, 33, 39], 27) := by decide +kernel
theorem dX13_ofObjectNow_28 : decode cX13_ofObjectNow 28 = .ok (.aload_n 0, 1) := by decide +kernel
theorem dX13_ofObjectNow_29 : decode cX13_ofObjectNow 29 = .ok (.iload_n 1, 1) := by decide +kernel
theorem dX13_ofObjectNow_30 : decode cX13_ofObjectNow 30 = .ok (.invokevirtual 129, 3) := by decide +kernel
theorem dX13_ofObjectNow_33 : decode cX13_ofObjectNow 33 = .ok (.ireturn, 1) := by decide +kernel
theorem dX13_ofObjectNow_34 : decode cX13_ofObjectNow 34 = .ok (.aload_n 0, 1) := by decide +kernel
theorem dX13_ofObjectNow_35 : decode cX13_ofObjectNow 35 = .ok (.iload_n 1, 1) := by decide +kernel
theorem dX13_ofObjectNow_36 : decode cX13_ofObjectNow 36 = .ok (.invokevirtual 119, 3) := by decide +kernel
theorem dX13_ofObjectNow_39 : decode cX13_ofObjectNow 39 = .ok (.ireturn, 1) := by decide +kernel
theorem dX13_ofObjectNow_40 : decode cX13_ofObjectNow 40 = .ok (.aload_n 0, 1) := by decide +kernel
theorem dX13_ofObjectNow_41 : decode cX13_ofObjectNow 41 = .ok (.iload_n 1, 1) := by decide +kernel
theorem dX13_ofObjectNow_42 : decode cX13_ofObjectNow 42 = .ok (.invokevirtual 132, 3) := by decide +kernel
theorem dX13_ofObjectNow_45 : decode cX13_ofObjectNow 45 = .ok (.ireturn, 1) := by decide +kernel
theorem dX13_ofObjectNow_46 : decode cX13_ofObjectNow 46 = .ok (.aload_n 0, 1) := by decide +kernel
theorem dX13_ofObjectNow_47 : decode cX13_ofObjectNow 47 = .ok (.getfield 135, 3) := by decide +kernel
theorem dX13_ofObjectNow_50 : decode cX13_ofObjectNow 50 = .ok (.ifCond .eq 15, 3) := by decide +kernel
theorem dX13_ofObjectNow_53 : decode cX13_ofObjectNow 53 = .ok (.aload_n 0, 1) := by decide +kernel
theorem dX13_ofObjectNow_54 : decode cX13_ofObjectNow 54 = .ok (.getfield 139, 3) := by decide +kernel
theorem dX13_ofObjectNow_57 : decode cX13_ofObjectNow 57 = .ok (.getfield 143, 3) := by decide +kernel
theorem dX13_ofObjectNow_60 : decode cX13_ofObjectNow 60 = .ok (.iload_n 1, 1) := by decide +kernel
theorem dX13_ofObjectNow_61 : decode cX13_ofObjectNow 61 = .ok (.iaload, 1) := by decide +kernel
theorem dX13_ofObjectNow_62 : decode cX13_ofObjectNow 62 = .ok (.goto 4, 3) := by decide +kernel
theorem dX13_ofObjectNow_65 : decode cX13_ofObjectNow 65 = .ok (.iconst (-1), 1) := by decide +kernel
theorem dX13_ofObjectNow_66 : decode cX13_ofObjectNow 66 = .ok (.ireturn, 1) := by decide +kernel
def g_X13_ofObjectNow : Nat → EA := (t_n 42 (t_n 34 (t_n 29 (t_n 1 (t_l 0 (a_iload 1 2)) (t_n 28 (t_l 1 (a_tsw 0 [28, 34, 40] 46)) (t_l 28 (a_aload 1 0)))) (t_n 30 (t_l 29 (a_iload 1 1)) (t_n 33 (t_l 30 (a_inv true 249 2 (some 13))) (t_l 33 a_iret)))) (t_n 39 (t_n 35 (t_l 34 (a_aload 1 0)) (t_n 36 (t_l 35 (a_iload 1 1)) (t_l 36 (a_inv true 244 2 (some 13))))) (t_n 40 (t_l 39 a_iret) (t_n 41 (t_l 40 (a_aload 1 0)) (t_l 41 (a_iload 1 1)))))) (t_n 54 (t_n 47 (t_n 45 (t_l 42 (a_inv true 246 2 (some 13))) (t_n 46 (t_l 45 a_iret) (t_l 46 (a_aload 1 0)))) (t_n 50 (t_l 47 (a_getf 13 17)) (t_n 53 (t_l 50 (a_if 65 (fun x => decide (x = 0)))) (t_l 53 (a_aload 1 0))))) (t_n 61 (t_n 57 (t_l 54 (a_getf 13 18)) (t_n 60 (t_l 57 (a_getf 12 6)) (t_l 60 (a_iload 1 1)))) (t_n 65 (t_n 62 (t_l 61 (a_ild 0)) (t_l 62 (a_goto 66))) (t_n 66 (t_l 65 (a_push 1 (.int (-1)))) (t_l 66 a_iret))))))
set_option maxRecDepth 100000 in
theorem k_X13_ofObjectNow (d : Nat) : ∀ pc, ev_Ok cX13_ofObjectNow 3 [] RX13 lw_g lw_n lw_q vwCl false (ev_CO mt lw_g lw_n lw_q vwCl d) pc (g_X13_ofObjectNow pc) := (ok_t_n (ok_t_n (ok_t_n (ok_t_n (ok_t_l (ok_iload_n dX13_ofObjectNow_0 rfl)) (ok_t_n (ok_t_l (ok_tsw dX13_ofObjectNow_1 rfl rfl rfl)) (ok_t_l (ok_aload_n dX13_ofObjectNow_28 rfl)))) (ok_t_n (ok_t_l (ok_iload_n dX13_ofObjectNow_29 rfl)) (ok_t_n (ok_t_l (ok_inv (run_V (y := 249) (n := 1) (ci := 13) dX13_ofObjectNow_30 cz_249 gdG cc_249 ci_249 w_1745 cm_249 cs_249 cd_249 cl_249 rfl rfl))) (ok_t_l (ok_ireturn dX13_ofObjectNow_33))))) (ok_t_n (ok_t_n (ok_t_l (ok_aload_n dX13_ofObjectNow_34 rfl)) (ok_t_n (ok_t_l (ok_iload_n dX13_ofObjectNow_35 rfl)) (ok_t_l (ok_inv (run_V (y := 244) (n := 1) (ci := 13) dX13_ofObjectNow_36 cz_244 gdG cc_244 ci_244 w_1725 cm_244 cs_244 cd_244 cl_244 rfl rfl))))) (ok_t_n (ok_t_l (ok_ireturn dX13_ofObjectNow_39)) (ok_t_n (ok_t_l (ok_aload_n dX13_ofObjectNow_40 rfl)) (ok_t_l (ok_iload_n dX13_ofObjectNow_41 rfl)))))) (ok_t_n (ok_t_n (ok_t_n (ok_t_l (ok_inv (run_V (y := 246) (n := 1) (ci := 13) dX13_ofObjectNow_42 cz_246 gdG cc_246 ci_246 w_1749 cm_246 cs_246 cd_246 cl_246 rfl rfl))) (ok_t_n (ok_t_l (ok_ireturn dX13_ofObjectNow_45)) (ok_t_l (ok_aload_n dX13_ofObjectNow_46 rfl)))) (ok_t_n (ok_t_l (ok_getfield dX13_ofObjectNow_47 (ci := 13) (kf := 17) rfl inGX13 (by decide) w_1590)) (ok_t_n (ok_t_l (ok_if_eq dX13_ofObjectNow_50 rfl)) (ok_t_l (ok_aload_n dX13_ofObjectNow_53 rfl))))) (ok_t_n (ok_t_n (ok_t_l (ok_getfield dX13_ofObjectNow_54 (ci := 13) (kf := 18) rfl inGX13 (by decide) w_1591)) (ok_t_n (ok_t_l (ok_getfieldN dX13_ofObjectNow_57 (ci := 12) (kf := 6) rfl inGX12 (by decide) (nst_49))) (ok_t_l (ok_iload_n dX13_ofObjectNow_60 rfl)))) (ok_t_n (ok_t_n (ok_t_l (ok_iaload dX13_ofObjectNow_61)) (ok_t_l (ok_goto dX13_ofObjectNow_62 rfl))) (ok_t_n (ok_t_l (ok_iconst dX13_ofObjectNow_65 rfl)) (ok_t_l (ok_ireturn dX13_ofObjectNow_66)))))))
theorem dX13_ofObject_0 : decode cX13_ofObject 0 = .ok (.aload_n 0, 1) := by decide +kernel
theorem dX13_ofObject_1 : decode cX13_ofObject 1 = .ok (.iconst 0, 1) := by decide +kernel
theorem dX13_ofObject_2 : decode cX13_ofObject 2 = .ok (.putfield 81, 3) := by decide +kernel
theorem dX13_ofObject_5 : decode cX13_ofObject 5 = .ok (.aload_n 0, 1) := by decide +kernel
theorem dX13_ofObject_6 : decode cX13_ofObject 6 = .ok (.iload_n 1, 1) := by decide +kernel
theorem dX13_ofObject_7 : decode cX13_ofObject 7 = .ok (.invokevirtual 98, 3) := by decide +kernel
theorem dX13_ofObject_10 : decode cX13_ofObject 10 = .ok (.ifCond .ne 9, 3) := by decide +kernel
theorem dX13_ofObject_13 : decode cX13_ofObject 13 = .ok (.aload_n 0, 1) := by decide +kernel
theorem dX13_ofObject_14 : decode cX13_ofObject 14 = .ok (.iconst 1, 1) := by decide +kernel
theorem dX13_ofObject_15 : decode cX13_ofObject 15 = .ok (.invokevirtual 94, 3) := by decide +kernel
theorem dX13_ofObject_18 : decode cX13_ofObject 18 = .ok (.ireturn, 1) := by decide +kernel
theorem dX13_ofObject_19 : decode cX13_ofObject 19 = .ok (.iload_n 2, 1) := by decide +kernel
theorem dX13_ofObject_20 : decode cX13_ofObject 20 = .ok (.iconst 0, 1) := by decide +kernel
theorem dX13_ofObject_21 : decode cX13_ofObject 21 = .ok (.iconst 3, 1) := by decide +kernel
theorem dX13_ofObject_22 : decode cX13_ofObject 22 = .ok (.invokestatic 87, 3) := by decide +kernel
theorem dX13_ofObject_25 : decode cX13_ofObject 25 = .ok (.ifCond .eq 12, 3) := by decide +kernel
theorem dX13_ofObject_28 : decode cX13_ofObject 28 = .ok (.aload_n 0, 1) := by decide +kernel
theorem dX13_ofObject_29 : decode cX13_ofObject 29 = .ok (.iload_n 1, 1) := by decide +kernel
theorem dX13_ofObject_30 : decode cX13_ofObject 30 = .ok (.iload_n 2, 1) := by decide +kernel
theorem dX13_ofObject_31 : decode cX13_ofObject 31 = .ok (.invokevirtual 148, 3) := by decide +kernel
theorem dX13_ofObject_34 : decode cX13_ofObject 34 = .ok (.goto 8, 3) := by decide +kernel
theorem dX13_ofObject_37 : decode cX13_ofObject 37 = .ok (.aload_n 0, 1) := by decide +kernel
theorem dX13_ofObject_38 : decode cX13_ofObject 38 = .ok (.iconst 2, 1) := by decide +kernel
theorem dX13_ofObject_39 : decode cX13_ofObject 39 = .ok (.invokevirtual 94, 3) := by decide +kernel
theorem dX13_ofObject_42 : decode cX13_ofObject 42 = .ok (.ireturn, 1) := by decide +kernel
def g_X13_ofObject : Nat → EA := (t_n 20 (t_n 10 (t_n 5 (t_n 1 (t_l 0 (a_aload 1 0)) (t_n 2 (t_l 1 (a_push 1 (.int 0))) (t_l 2 (a_putf 0 13 0)))) (t_n 6 (t_l 5 (a_aload 1 0)) (t_n 7 (t_l 6 (a_iload 1 1)) (t_l 7 (a_inv true 233 2 (some 13)))))) (t_n 15 (t_n 13 (t_l 10 (a_if 19 (fun x => !decide (x = 0)))) (t_n 14 (t_l 13 (a_aload 1 0)) (t_l 14 (a_push 1 (.int 1))))) (t_n 18 (t_l 15 (a_inv true 229 2 (some 13))) (t_n 19 (t_l 18 a_iret) (t_l 19 (a_iload 1 2)))))) (t_n 30 (t_n 25 (t_n 21 (t_l 20 (a_push 1 (.int 0))) (t_n 22 (t_l 21 (a_push 1 (.int 3))) (t_l 22 (a_inv true 230 3 none)))) (t_n 28 (t_l 25 (a_if 37 (fun x => decide (x = 0)))) (t_n 29 (t_l 28 (a_aload 1 0)) (t_l 29 (a_iload 1 1))))) (t_n 37 (t_n 31 (t_l 30 (a_iload 1 2)) (t_n 34 (t_l 31 (a_inv true 250 3 (some 13))) (t_l 34 (a_goto 42)))) (t_n 39 (t_n 38 (t_l 37 (a_aload 1 0)) (t_l 38 (a_push 1 (.int 2)))) (t_n 42 (t_l 39 (a_inv true 229 2 (some 13))) (t_l 42 a_iret))))))
set_option maxRecDepth 100000 in
theorem k_X13_ofObject (d : Nat) : ∀ pc, ev_Ok cX13_ofObject 3 [] RX13 lw_g lw_n lw_q vwCl false (ev_CO mt lw_g lw_n lw_q vwCl d) pc (g_X13_ofObject pc) := (ok_t_n (ok_t_n (ok_t_n (ok_t_n (ok_t_l (ok_aload_n dX13_ofObject_0 rfl)) (ok_t_n (ok_t_l (ok_iconst dX13_ofObject_1 rfl)) (ok_t_l (ok_putfield dX13_ofObject_2 (ci := 13) (kf := 0) rfl inGX13 (by decide) tyX13_ok nmX13 rfl w_1559 rfl)))) (ok_t_n (ok_t_l (ok_aload_n dX13_ofObject_5 rfl)) (ok_t_n (ok_t_l (ok_iload_n dX13_ofObject_6 rfl)) (ok_t_l (ok_inv (run_V (y := 233) (n := 1) (ci := 13) dX13_ofObject_7 cz_233 gdG cc_233 ci_233 w_1680 cm_233 cs_233 cd_233 cl_233 rfl rfl)))))) (ok_t_n (ok_t_n (ok_t_l (ok_if_ne dX13_ofObject_10 rfl)) (ok_t_n (ok_t_l (ok_aload_n dX13_ofObject_13 rfl)) (ok_t_l (ok_iconst dX13_ofObject_14 rfl)))) (ok_t_n (ok_t_l (ok_inv (run_V (y := 229) (n := 1) (ci := 13) dX13_ofObject_15 cz_229 gdG cc_229 ci_229 w_1672 cm_229 cs_229 cd_229 cl_229 rfl rfl))) (ok_t_n (ok_t_l (ok_ireturn dX13_ofObject_18)) (ok_t_l (ok_iload_n dX13_ofObject_19 rfl)))))) (ok_t_n (ok_t_n (ok_t_n (ok_t_l (ok_iconst dX13_ofObject_20 rfl)) (ok_t_n (ok_t_l (ok_iconst dX13_ofObject_21 rfl)) (ok_t_l (ok_inv (run_S (y := 230) (n := 3) dX13_ofObject_22 cz_230 gdG cc_230 ci_230 w_1684 cm_230 cd_230 cl_230))))) (ok_t_n (ok_t_l (ok_if_eq dX13_ofObject_25 rfl)) (ok_t_n (ok_t_l (ok_aload_n dX13_ofObject_28 rfl)) (ok_t_l (ok_iload_n dX13_ofObject_29 rfl))))) (ok_t_n (ok_t_n (ok_t_l (ok_iload_n dX13_ofObject_30 rfl)) (ok_t_n (ok_t_l (ok_inv (run_V (y := 250) (n := 2) (ci := 13) dX13_ofObject_31 cz_250 gdG cc_250 ci_250 w_1741 cm_250 cs_250 cd_250 cl_250 rfl rfl))) (ok_t_l (ok_goto dX13_ofObject_34 rfl)))) (ok_t_n (ok_t_n (ok_t_l (ok_aload_n dX13_ofObject_37 rfl)) (ok_t_l (ok_iconst dX13_ofObject_38 rfl))) (ok_t_n (ok_t_l (ok_inv (run_V (y := 229) (n := 1) (ci := 13) dX13_ofObject_39 cz_229 gdG cc_229 ci_229 w_1672 cm_229 cs_229 cd_229 cl_229 rfl rfl))) (ok_t_l (ok_ireturn dX13_ofObject_42)))))))
theorem dX13_bounds_0 : decode cX13_bounds 0 = .ok (.aload_n 0, 1) := by decide +kernel
theorem dX13_bounds_1 : decode cX13_bounds 1 = .ok (.iconst 0, 1) := by decide +kernel
theorem dX13_bounds_2 : decode cX13_bounds 2 = .ok (.putfield 81, 3) := by decide +kernel
theorem dX13_bounds_5 : decode cX13_bounds 5 = .ok (.iload_n 1, 1) := by decide +kernel
theorem dX13_bounds_6 : decode cX13_bounds 6 = .ok (.iconst 1, 1) := by decide +kernel
theorem dX13_bounds_7 : decode cX13_bounds 7 = .ok (.sipush 500, 3) := by decide +kernel
theorem dX13_bounds_10 : decode cX13_bounds 10 = .ok (.invokestatic 87, 3) := by decide +kernel
theorem dX13_bounds_13 : decode cX13_bounds 13 = .ok (.ifCond .eq 14, 3) := by decide +kernel
theorem dX13_bounds_16 : decode cX13_bounds 16 = .ok (.iload_n 2, 1) := by decide +kernel
theorem dX13_bounds_17 : decode cX13_bounds 17 = .ok (.iconst 0, 1) := by decide +kernel
theorem dX13_bounds_18 : decode cX13_bounds 18 = .ok (.sipush 9999, 3) := by decide +kernel
theorem dX13_bounds_21 : decode cX13_bounds 21 = .ok (.invokestatic 87, 3) := by decide +kernel
theorem dX13_bounds_24 : decode cX13_bounds 24 = .ok (.ifCond .ne 9, 3) := by decide +kernel
theorem dX13_bounds_27 : decode cX13_bounds 27 = .ok (.aload_n 0, 1) := by decide +kernel
theorem dX13_bounds_28 : decode cX13_bounds 28 = .ok (.iconst 1, 1) := by decide +kernel
theorem dX13_bounds_29 : decode cX13_bounds 29 = .ok (.invokevirtual 94, 3) := by decide +kernel
theorem dX13_bounds_32 : decode cX13_bounds 32 = .ok (.ireturn, 1) := by decide +kernel
theorem dX13_bounds_33 : decode cX13_bounds 33 = .ok (.aload_n 0, 1) := by decide +kernel
theorem dX13_bounds_34 : decode cX13_bounds 34 = .ok (.getfield 44, 3) := by decide +kernel
theorem dX13_bounds_37 : decode cX13_bounds 37 = .ok (.istore_n 3, 1) := by decide +kernel
theorem dX13_bounds_38 : decode cX13_bounds 38 = .ok (.aload_n 0, 1) := by decide +kernel
theorem dX13_bounds_39 : decode cX13_bounds 39 = .ok (.iload_n 1, 1) := by decide +kernel
theorem dX13_bounds_40 : decode cX13_bounds 40 = .ok (.putfield 44, 3) := by decide +kernel
theorem dX13_bounds_43 : decode cX13_bounds 43 = .ok (.aload_n 0, 1) := by decide +kernel
theorem dX13_bounds_44 : decode cX13_bounds 44 = .ok (.iload_n 2, 1) := by decide +kernel
theorem dX13_bounds_45 : decode cX13_bounds 45 = .ok (.putfield 48, 3) := by decide +kernel
theorem dX13_bounds_48 : decode cX13_bounds 48 = .ok (.iload_n 3, 1) := by decide +kernel
theorem dX13_bounds_49 : decode cX13_bounds 49 = .ok (.ireturn, 1) := by decide +kernel
def g_X13_bounds : Nat → EA := (t_n 28 (t_n 13 (t_n 5 (t_n 1 (t_l 0 (a_aload 1 0)) (t_n 2 (t_l 1 (a_push 1 (.int 0))) (t_l 2 (a_putf 0 13 0)))) (t_n 7 (t_n 6 (t_l 5 (a_iload 1 1)) (t_l 6 (a_push 1 (.int 1)))) (t_n 10 (t_l 7 (a_push 3 (.int 500))) (t_l 10 (a_inv true 230 3 none))))) (t_n 18 (t_n 16 (t_l 13 (a_if 27 (fun x => decide (x = 0)))) (t_n 17 (t_l 16 (a_iload 1 2)) (t_l 17 (a_push 1 (.int 0))))) (t_n 24 (t_n 21 (t_l 18 (a_push 3 (.int 9999))) (t_l 21 (a_inv true 230 3 none))) (t_n 27 (t_l 24 (a_if 33 (fun x => !decide (x = 0)))) (t_l 27 (a_aload 1 0)))))) (t_n 39 (t_n 33 (t_n 29 (t_l 28 (a_push 1 (.int 1))) (t_n 32 (t_l 29 (a_inv true 229 2 (some 13))) (t_l 32 a_iret))) (t_n 37 (t_n 34 (t_l 33 (a_aload 1 0)) (t_l 34 (a_getf 13 15))) (t_n 38 (t_l 37 (a_istore 4 1 3)) (t_l 38 (a_aload 1 0))))) (t_n 44 (t_n 40 (t_l 39 (a_iload 1 1)) (t_n 43 (t_l 40 (a_putf 0 13 15)) (t_l 43 (a_aload 1 0)))) (t_n 48 (t_n 45 (t_l 44 (a_iload 1 2)) (t_l 45 (a_putf 0 13 16))) (t_n 49 (t_l 48 (a_iload 1 3)) (t_l 49 a_iret))))))
set_option maxRecDepth 100000 in
theorem k_X13_bounds (d : Nat) : ∀ pc, ev_Ok cX13_bounds 4 [] RX13 lw_g lw_n lw_q vwCl false (ev_CO mt lw_g lw_n lw_q vwCl d) pc (g_X13_bounds pc) := (ok_t_n (ok_t_n (ok_t_n (ok_t_n (ok_t_l (ok_aload_n dX13_bounds_0 rfl)) (ok_t_n (ok_t_l (ok_iconst dX13_bounds_1 rfl)) (ok_t_l (ok_putfield dX13_bounds_2 (ci := 13) (kf := 0) rfl inGX13 (by decide) tyX13_ok nmX13 rfl w_1559 rfl)))) (ok_t_n (ok_t_n (ok_t_l (ok_iload_n dX13_bounds_5 rfl)) (ok_t_l (ok_iconst dX13_bounds_6 rfl))) (ok_t_n (ok_t_l (ok_sipush dX13_bounds_7 rfl)) (ok_t_l (ok_inv (run_S (y := 230) (n := 3) dX13_bounds_10 cz_230 gdG cc_230 ci_230 w_1684 cm_230 cd_230 cl_230)))))) (ok_t_n (ok_t_n (ok_t_l (ok_if_eq dX13_bounds_13 rfl)) (ok_t_n (ok_t_l (ok_iload_n dX13_bounds_16 rfl)) (ok_t_l (ok_iconst dX13_bounds_17 rfl)))) (ok_t_n (ok_t_n (ok_t_l (ok_sipush dX13_bounds_18 rfl)) (ok_t_l (ok_inv (run_S (y := 230) (n := 3) dX13_bounds_21 cz_230 gdG cc_230 ci_230 w_1684 cm_230 cd_230 cl_230)))) (ok_t_n (ok_t_l (ok_if_ne dX13_bounds_24 rfl)) (ok_t_l (ok_aload_n dX13_bounds_27 rfl)))))) (ok_t_n (ok_t_n (ok_t_n (ok_t_l (ok_iconst dX13_bounds_28 rfl)) (ok_t_n (ok_t_l (ok_inv (run_V (y := 229) (n := 1) (ci := 13) dX13_bounds_29 cz_229 gdG cc_229 ci_229 w_1672 cm_229 cs_229 cd_229 cl_229 rfl rfl))) (ok_t_l (ok_ireturn dX13_bounds_32)))) (ok_t_n (ok_t_n (ok_t_l (ok_aload_n dX13_bounds_33 rfl)) (ok_t_l (ok_getfield dX13_bounds_34 (ci := 13) (kf := 15) rfl inGX13 (by decide) w_1588))) (ok_t_n (ok_t_l (ok_istore_n dX13_bounds_37 rfl)) (ok_t_l (ok_aload_n dX13_bounds_38 rfl))))) (ok_t_n (ok_t_n (ok_t_l (ok_iload_n dX13_bounds_39 rfl)) (ok_t_n (ok_t_l (ok_putfield dX13_bounds_40 (ci := 13) (kf := 15) rfl inGX13 (by decide) tyX13_ok nmX13 rfl w_1588 rfl)) (ok_t_l (ok_aload_n dX13_bounds_43 rfl)))) (ok_t_n (ok_t_n (ok_t_l (ok_iload_n dX13_bounds_44 rfl)) (ok_t_l (ok_putfield dX13_bounds_45 (ci := 13) (kf := 16) rfl inGX13 (by decide) tyX13_ok nmX13 rfl w_1589 rfl))) (ok_t_n (ok_t_l (ok_iload_n dX13_bounds_48 rfl)) (ok_t_l (ok_ireturn dX13_bounds_49)))))))
theorem dX13_link_0 : decode cX13_link 0 = .ok (.aload_n 0, 1) := by decide +kernel
theorem dX13_link_1 : decode cX13_link 1 = .ok (.iconst 0, 1) := by decide +kernel
theorem dX13_link_2 : decode cX13_link 2 = .ok (.putfield 81, 3) := by decide +kernel
theorem dX13_link_5 : decode cX13_link 5 = .ok (.iload_n 1, 1) := by decide +kernel
theorem dX13_link_6 : decode cX13_link 6 = .ok (.invokestatic 112, 3) := by decide +kernel
theorem dX13_link_9 : decode cX13_link 9 = .ok (.ifCond .ne 9, 3) := by decide +kernel
theorem dX13_link_12 : decode cX13_link 12 = .ok (.aload_n 0, 1) := by decide +kernel
theorem dX13_link_13 : decode cX13_link 13 = .ok (.iconst 1, 1) := by decide +kernel
theorem dX13_link_14 : decode cX13_link 14 = .ok (.invokevirtual 94, 3) := by decide +kernel
theorem dX13_link_17 : decode cX13_link 17 = .ok (.ireturn, 1) := by decide +kernel
theorem dX13_link_18 : decode cX13_link 18 = .ok (.aload_n 0, 1) := by decide +kernel
theorem dX13_link_19 : decode cX13_link 19 = .ok (.new 144, 3) := by decide +kernel
theorem dX13_link_22 : decode cX13_link 22 = .ok (.dup, 1) := by decide +kernel
theorem dX13_link_23 : decode cX13_link 23 = .ok (.aload_n 0, 1) := by decide +kernel
theorem dX13_link_24 : decode cX13_link 24 = .ok (.iload_n 1, 1) := by decide +kernel
theorem dX13_link_25 : decode cX13_link 25 = .ok (.iload_n 2, 1) := by decide +kernel
theorem dX13_link_26 : decode cX13_link 26 = .ok (.aload_n 0, 1) := by decide +kernel
theorem dX13_link_27 : decode cX13_link 27 = .ok (.getfield 44, 3) := by decide +kernel
theorem dX13_link_30 : decode cX13_link 30 = .ok (.aload_n 0, 1) := by decide +kernel
theorem dX13_link_31 : decode cX13_link 31 = .ok (.getfield 48, 3) := by decide +kernel
theorem dX13_link_34 : decode cX13_link 34 = .ok (.iconst (-1), 1) := by decide +kernel
theorem dX13_link_35 : decode cX13_link 35 = .ok (.invokespecial 152, 3) := by decide +kernel
theorem dX13_link_38 : decode cX13_link 38 = .ok (.putfield 139, 3) := by decide +kernel
theorem dX13_link_41 : decode cX13_link 41 = .ok (.aload_n 0, 1) := by decide +kernel
theorem dX13_link_42 : decode cX13_link 42 = .ok (.iconst 1, 1) := by decide +kernel
theorem dX13_link_43 : decode cX13_link 43 = .ok (.putfield 135, 3) := by decide +kernel
theorem dX13_link_46 : decode cX13_link 46 = .ok (.iconst 0, 1) := by decide +kernel
theorem dX13_link_47 : decode cX13_link 47 = .ok (.istore_n 3, 1) := by decide +kernel
theorem dX13_link_48 : decode cX13_link 48 = .ok (.iload_n 3, 1) := by decide +kernel
theorem dX13_link_49 : decode cX13_link 49 = .ok (.bipush 24, 2) := by decide +kernel
theorem dX13_link_51 : decode cX13_link 51 = .ok (.if_icmp .ge 35, 3) := by decide +kernel
theorem dX13_link_54 : decode cX13_link 54 = .ok (.aload_n 0, 1) := by decide +kernel
theorem dX13_link_55 : decode cX13_link 55 = .ok (.getfield 51, 3) := by decide +kernel
theorem dX13_link_58 : decode cX13_link 58 = .ok (.iload_n 3, 1) := by decide +kernel
theorem dX13_link_59 : decode cX13_link 59 = .ok (.iload_n 3, 1) := by decide +kernel
theorem dX13_link_60 : decode cX13_link 60 = .ok (.aload_n 0, 1) := by decide +kernel
theorem dX13_link_61 : decode cX13_link 61 = .ok (.getfield 91, 3) := by decide +kernel
theorem dX13_link_64 : decode cX13_link 64 = .ok (.if_icmp .ge 14, 3) := by decide +kernel
theorem dX13_link_67 : decode cX13_link 67 = .ok (.aload_n 0, 1) := by decide +kernel
theorem dX13_link_68 : decode cX13_link 68 = .ok (.getfield 139, 3) := by decide +kernel
theorem dX13_link_71 : decode cX13_link 71 = .ok (.iload_n 3, 1) := by decide +kernel
theorem dX13_link_72 : decode cX13_link 72 = .ok (.invokevirtual 155, 3) := by decide +kernel
theorem dX13_link_75 : decode cX13_link 75 = .ok (.goto 4, 3) := by decide +kernel
theorem dX13_link_78 : decode cX13_link 78 = .ok (.iconst 0, 1) := by decide +kernel
theorem dX13_link_79 : decode cX13_link 79 = .ok (.iastore, 1) := by decide +kernel
theorem dX13_link_80 : decode cX13_link 80 = .ok (.iinc 3 1, 3) := by decide +kernel
theorem dX13_link_83 : decode cX13_link 83 = .ok (.goto (-35), 3) := by decide +kernel
theorem dX13_link_86 : decode cX13_link 86 = .ok (.aload_n 0, 1) := by decide +kernel
theorem dX13_link_87 : decode cX13_link 87 = .ok (.getfield 139, 3) := by decide +kernel
theorem dX13_link_90 : decode cX13_link 90 = .ok (.getfield 158, 3) := by decide +kernel
theorem dX13_link_93 : decode cX13_link 93 = .ok (.ireturn, 1) := by decide +kernel
def g_X13_link : Nat → EA := (t_n 43 (t_n 22 (t_n 12 (t_n 5 (t_n 1 (t_l 0 (a_aload 1 0)) (t_n 2 (t_l 1 (a_push 1 (.int 0))) (t_l 2 (a_putf 0 13 0)))) (t_n 6 (t_l 5 (a_iload 1 1)) (t_n 9 (t_l 6 (a_inv true 235 1 none)) (t_l 9 (a_if 18 (fun x => !decide (x = 0))))))) (t_n 17 (t_n 13 (t_l 12 (a_aload 1 0)) (t_n 14 (t_l 13 (a_push 1 (.int 1))) (t_l 14 (a_inv true 229 2 (some 13))))) (t_n 18 (t_l 17 a_iret) (t_n 19 (t_l 18 (a_aload 1 0)) (t_l 19 (a_new 12 25 [.int 0, .int 0, .int 0, .int 0, .int 0, .null, .null, .null, .null, .null, .null, .null, .null, .null, .null, .null, .null, .null, .int 0, .int 0, .int 0, .int 0, .null, .null, .null])))))) (t_n 30 (t_n 25 (t_n 23 (t_l 22 a_dup) (t_n 24 (t_l 23 (a_aload 1 0)) (t_l 24 (a_iload 1 1)))) (t_n 26 (t_l 25 (a_iload 1 2)) (t_n 27 (t_l 26 (a_aload 1 0)) (t_l 27 (a_getf 13 15))))) (t_n 35 (t_n 31 (t_l 30 (a_aload 1 0)) (t_n 34 (t_l 31 (a_getf 13 16)) (t_l 34 (a_push 1 (.int (-1)))))) (t_n 41 (t_n 38 (t_l 35 (a_inv false 203 7 (some 12))) (t_l 38 (a_putf 9 13 18))) (t_n 42 (t_l 41 (a_aload 1 0)) (t_l 42 (a_push 1 (.int 1)))))))) (t_n 67 (t_n 54 (t_n 48 (t_n 46 (t_l 43 (a_putf 1 13 17)) (t_n 47 (t_l 46 (a_push 1 (.int 0))) (t_l 47 (a_istore 4 1 3)))) (t_n 49 (t_l 48 (a_iload 1 3)) (t_n 51 (t_l 49 (a_push 2 (.int 24))) (t_l 51 (a_ic 86 (fun x y => decide (y ≤ x))))))) (t_n 59 (t_n 55 (t_l 54 (a_aload 1 0)) (t_n 58 (t_l 55 (a_getf 13 19)) (t_l 58 (a_iload 1 3)))) (t_n 61 (t_n 60 (t_l 59 (a_iload 1 3)) (t_l 60 (a_aload 1 0))) (t_n 64 (t_l 61 (a_getf 13 2)) (t_l 64 (a_ic 78 (fun x y => decide (y ≤ x)))))))) (t_n 79 (t_n 72 (t_n 68 (t_l 67 (a_aload 1 0)) (t_n 71 (t_l 68 (a_getf 13 18)) (t_l 71 (a_iload 1 3)))) (t_n 75 (t_l 72 (a_inv false 223 2 (some 12))) (t_n 78 (t_l 75 (a_goto 79)) (t_l 78 (a_push 1 (.int 0)))))) (t_n 86 (t_n 80 (t_l 79 (a_ist 0)) (t_n 83 (t_l 80 (a_iinc 4 3 1)) (t_l 83 (a_goto 48)))) (t_n 90 (t_n 87 (t_l 86 (a_aload 1 0)) (t_l 87 (a_getf 13 18))) (t_n 93 (t_l 90 (a_getf 12 21)) (t_l 93 a_iret)))))))
set_option maxRecDepth 100000 in
theorem k_X13_link (d : Nat) : ∀ pc, ev_Ok cX13_link 4 [] RX13 lw_g lw_n lw_q vwCl false (ev_CO mt lw_g lw_n lw_q vwCl d) pc (g_X13_link pc) := (ok_t_n (ok_t_n (ok_t_n (ok_t_n (ok_t_n (ok_t_l (ok_aload_n dX13_link_0 rfl)) (ok_t_n (ok_t_l (ok_iconst dX13_link_1 rfl)) (ok_t_l (ok_putfield dX13_link_2 (ci := 13) (kf := 0) rfl inGX13 (by decide) tyX13_ok nmX13 rfl w_1559 rfl)))) (ok_t_n (ok_t_l (ok_iload_n dX13_link_5 rfl)) (ok_t_n (ok_t_l (ok_inv (run_S (y := 235) (n := 1) dX13_link_6 cz_235 gdG cc_235 ci_235 w_1706 cm_235 cd_235 cl_235))) (ok_t_l (ok_if_ne dX13_link_9 rfl))))) (ok_t_n (ok_t_n (ok_t_l (ok_aload_n dX13_link_12 rfl)) (ok_t_n (ok_t_l (ok_iconst dX13_link_13 rfl)) (ok_t_l (ok_inv (run_V (y := 229) (n := 1) (ci := 13) dX13_link_14 cz_229 gdG cc_229 ci_229 w_1672 cm_229 cs_229 cd_229 cl_229 rfl rfl))))) (ok_t_n (ok_t_l (ok_ireturn dX13_link_17)) (ok_t_n (ok_t_l (ok_aload_n dX13_link_18 rfl)) (ok_t_l (ok_new dX13_link_19 (ci := 12) rfl inGX12 tyX12 tyX12_ok w_1764 w_1765 w_105 (by decide +kernel) rfl)))))) (ok_t_n (ok_t_n (ok_t_n (ok_t_l (ok_dup dX13_link_22)) (ok_t_n (ok_t_l (ok_aload_n dX13_link_23 rfl)) (ok_t_l (ok_iload_n dX13_link_24 rfl)))) (ok_t_n (ok_t_l (ok_iload_n dX13_link_25 rfl)) (ok_t_n (ok_t_l (ok_aload_n dX13_link_26 rfl)) (ok_t_l (ok_getfield dX13_link_27 (ci := 13) (kf := 15) rfl inGX13 (by decide) w_1588))))) (ok_t_n (ok_t_n (ok_t_l (ok_aload_n dX13_link_30 rfl)) (ok_t_n (ok_t_l (ok_getfield dX13_link_31 (ci := 13) (kf := 16) rfl inGX13 (by decide) w_1589)) (ok_t_l (ok_iconst dX13_link_34 rfl)))) (ok_t_n (ok_t_n (ok_t_l (ok_inv (run_I (y := 203) (n := 6) (ci := 12) dX13_link_35 cz_203 gdG cc_203 ci_203 w_1766 cm_203 rfl rfl cd_203 cl_203))) (ok_t_l (ok_putfield dX13_link_38 (ci := 13) (kf := 18) rfl inGX13 (by decide) tyX13_ok nmX13 rfl w_1591 rfl))) (ok_t_n (ok_t_l (ok_aload_n dX13_link_41 rfl)) (ok_t_l (ok_iconst dX13_link_42 rfl))))))) (ok_t_n (ok_t_n (ok_t_n (ok_t_n (ok_t_l (ok_putfield dX13_link_43 (ci := 13) (kf := 17) rfl inGX13 (by decide) tyX13_ok nmX13 rfl w_1590 rfl)) (ok_t_n (ok_t_l (ok_iconst dX13_link_46 rfl)) (ok_t_l (ok_istore_n dX13_link_47 rfl)))) (ok_t_n (ok_t_l (ok_iload_n dX13_link_48 rfl)) (ok_t_n (ok_t_l (ok_bipush dX13_link_49 rfl)) (ok_t_l (ok_icmp_ge dX13_link_51 rfl))))) (ok_t_n (ok_t_n (ok_t_l (ok_aload_n dX13_link_54 rfl)) (ok_t_n (ok_t_l (ok_getfield dX13_link_55 (ci := 13) (kf := 19) rfl inGX13 (by decide) w_1592)) (ok_t_l (ok_iload_n dX13_link_58 rfl)))) (ok_t_n (ok_t_n (ok_t_l (ok_iload_n dX13_link_59 rfl)) (ok_t_l (ok_aload_n dX13_link_60 rfl))) (ok_t_n (ok_t_l (ok_getfield dX13_link_61 (ci := 13) (kf := 2) rfl inGX13 (by decide) w_1563)) (ok_t_l (ok_icmp_ge dX13_link_64 rfl)))))) (ok_t_n (ok_t_n (ok_t_n (ok_t_l (ok_aload_n dX13_link_67 rfl)) (ok_t_n (ok_t_l (ok_getfield dX13_link_68 (ci := 13) (kf := 18) rfl inGX13 (by decide) w_1591)) (ok_t_l (ok_iload_n dX13_link_71 rfl)))) (ok_t_n (ok_t_l (ok_inv (run_VN (y := 223) (n := 1) (ci := 12) dX13_link_72 cz_223 gdG cc_223 ci_223 nst_61 cm_223 cs_223 cd_223 cl_223 rfl rfl))) (ok_t_n (ok_t_l (ok_goto dX13_link_75 rfl)) (ok_t_l (ok_iconst dX13_link_78 rfl))))) (ok_t_n (ok_t_n (ok_t_l (ok_iastore dX13_link_79)) (ok_t_n (ok_t_l (ok_iinc dX13_link_80 rfl)) (ok_t_l (ok_goto dX13_link_83 rfl)))) (ok_t_n (ok_t_n (ok_t_l (ok_aload_n dX13_link_86 rfl)) (ok_t_l (ok_getfield dX13_link_87 (ci := 13) (kf := 18) rfl inGX13 (by decide) w_1591))) (ok_t_n (ok_t_l (ok_getfieldN dX13_link_90 (ci := 12) (kf := 21) rfl inGX12 (by decide) (nst_58))) (ok_t_l (ok_ireturn dX13_link_93))))))))
theorem dX13_ofSectionNow_0 : decode cX13_ofSectionNow 0 = .ok (.iload_n 2, 1) := by decide +kernel
theorem dX13_ofSectionNow_1 : decode cX13_ofSectionNow 1 = .ok (.tableswitch 127 0 5 #[39, 46, 53, 60, 85, 106], 39) := by decide +kernel
theorem dX13_ofSectionNow_40 : decode cX13_ofSectionNow 40 = .ok (.aload_n 0, 1) := by decide +kernel
theorem dX13_ofSectionNow_41 : decode cX13_ofSectionNow 41 = .ok (.getfield 9, 3) := by decide +kernel
theorem dX13_ofSectionNow_44 : decode cX13_ofSectionNow 44 = .ok (.iload_n 1, 1) := by decide +kernel
theorem dX13_ofSectionNow_45 : decode cX13_ofSectionNow 45 = .ok (.iaload, 1) := by decide +kernel
theorem dX13_ofSectionNow_46 : decode cX13_ofSectionNow 46 = .ok (.ireturn, 1) := by decide +kernel
theorem dX13_ofSectionNow_47 : decode cX13_ofSectionNow 47 = .ok (.aload_n 0, 1) := by decide +kernel
theorem dX13_ofSectionNow_48 : decode cX13_ofSectionNow 48 = .ok (.getfield 13, 3) := by decide +kernel
theorem dX13_ofSectionNow_51 : decode cX13_ofSectionNow 51 = .ok (.iload_n 1, 1) := by decide +kernel
theorem dX13_ofSectionNow_52 : decode cX13_ofSectionNow 52 = .ok (.iaload, 1) := by decide +kernel
theorem dX13_ofSectionNow_53 : decode cX13_ofSectionNow 53 = .ok (.ireturn, 1) := by decide +kernel
theorem dX13_ofSectionNow_54 : decode cX13_ofSectionNow 54 = .ok (.aload_n 0, 1) := by decide +kernel
theorem dX13_ofSectionNow_55 : decode cX13_ofSectionNow 55 = .ok (.getfield 16, 3) := by decide +kernel
theorem dX13_ofSectionNow_58 : decode cX13_ofSectionNow 58 = .ok (.iload_n 1, 1) := by decide +kernel
theorem dX13_ofSectionNow_59 : decode cX13_ofSectionNow 59 = .ok (.iaload, 1) := by decide +kernel
theorem dX13_ofSectionNow_60 : decode cX13_ofSectionNow 60 = .ok (.ireturn, 1) := by decide +kernel
theorem dX13_ofSectionNow_61 : decode cX13_ofSectionNow 61 = .ok (.aload_n 0, 1) := by decide +kernel
theorem dX13_ofSectionNow_62 : decode cX13_ofSectionNow 62 = .ok (.getfield 135, 3) := by decide +kernel
theorem dX13_ofSectionNow_65 : decode cX13_ofSectionNow 65 = .ok (.ifCond .eq 19, 3) := by decide +kernel
theorem dX13_ofSectionNow_68 : decode cX13_ofSectionNow 68 = .ok (.aload_n 0, 1) := by decide +kernel
theorem dX13_ofSectionNow_69 : decode cX13_ofSectionNow 69 = .ok (.getfield 139, 3) := by decide +kernel
theorem dX13_ofSectionNow_72 : decode cX13_ofSectionNow 72 = .ok (.getfield 161, 3) := by decide +kernel
theorem dX13_ofSectionNow_75 : decode cX13_ofSectionNow 75 = .ok (.iload_n 1, 1) := by decide +kernel
theorem dX13_ofSectionNow_76 : decode cX13_ofSectionNow 76 = .ok (.baload, 1) := by decide +kernel
theorem dX13_ofSectionNow_77 : decode cX13_ofSectionNow 77 = .ok (.ifCond .eq 7, 3) := by decide +kernel
theorem dX13_ofSectionNow_80 : decode cX13_ofSectionNow 80 = .ok (.iconst 1, 1) := by decide +kernel
theorem dX13_ofSectionNow_81 : decode cX13_ofSectionNow 81 = .ok (.goto 4, 3) := by decide +kernel
theorem dX13_ofSectionNow_84 : decode cX13_ofSectionNow 84 = .ok (.iconst 0, 1) := by decide +kernel
theorem dX13_ofSectionNow_85 : decode cX13_ofSectionNow 85 = .ok (.ireturn, 1) := by decide +kernel
theorem dX13_ofSectionNow_86 : decode cX13_ofSectionNow 86 = .ok (.aload_n 0, 1) := by decide +kernel
theorem dX13_ofSectionNow_87 : decode cX13_ofSectionNow 87 = .ok (.getfield 135, 3) := by decide +kernel
theorem dX13_ofSectionNow_90 : decode cX13_ofSectionNow 90 = .ok (.ifCond .eq 15, 3) := by decide +kernel
theorem dX13_ofSectionNow_93 : decode cX13_ofSectionNow 93 = .ok (.aload_n 0, 1) := by decide +kernel
theorem dX13_ofSectionNow_94 : decode cX13_ofSectionNow 94 = .ok (.getfield 139, 3) := by decide +kernel
theorem dX13_ofSectionNow_97 : decode cX13_ofSectionNow 97 = .ok (.getfield 164, 3) := by decide +kernel
theorem dX13_ofSectionNow_100 : decode cX13_ofSectionNow 100 = .ok (.iload_n 1, 1) := by decide +kernel
theorem dX13_ofSectionNow_101 : decode cX13_ofSectionNow 101 = .ok (.iaload, 1) := by decide +kernel
theorem dX13_ofSectionNow_102 : decode cX13_ofSectionNow 102 = .ok (.goto 4, 3) := by decide +kernel
theorem dX13_ofSectionNow_105 : decode cX13_ofSectionNow 105 = .ok (.iconst (-1), 1) := by decide +kernel
theorem dX13_ofSectionNow_106 : decode cX13_ofSectionNow 106 = .ok (.ireturn, 1) := by decide +kernel
theorem dX13_ofSectionNow_107 : decode cX13_ofSectionNow 107 = .ok (.aload_n 0, 1) := by decide +kernel
theorem dX13_ofSectionNow_108 : decode cX13_ofSectionNow 108 = .ok (.getfield 135, 3) := by decide +kernel
theorem dX13_ofSectionNow_111 : decode cX13_ofSectionNow 111 = .ok (.ifCond .eq 15, 3) := by decide +kernel
theorem dX13_ofSectionNow_114 : decode cX13_ofSectionNow 114 = .ok (.aload_n 0, 1) := by decide +kernel
theorem dX13_ofSectionNow_115 : decode cX13_ofSectionNow 115 = .ok (.getfield 139, 3) := by decide +kernel
theorem dX13_ofSectionNow_118 : decode cX13_ofSectionNow 118 = .ok (.getfield 167, 3) := by decide +kernel
theorem dX13_ofSectionNow_121 : decode cX13_ofSectionNow 121 = .ok (.iload_n 1, 1) := by decide +kernel
theorem dX13_ofSectionNow_122 : decode cX13_ofSectionNow 122 = .ok (.iaload, 1) := by decide +kernel
theorem dX13_ofSectionNow_123 : decode cX13_ofSectionNow 123 = .ok (.goto 4, 3) := by decide +kernel
theorem dX13_ofSectionNow_126 : decode cX13_ofSectionNow 126 = .ok (.iconst 0, 1) := by decide +kernel
theorem dX13_ofSectionNow_127 : decode cX13_ofSectionNow 127 = .ok (.ireturn, 1) := by decide +kernel
theorem dX13_ofSectionNow_128 : decode cX13_ofSectionNow 128 = .ok (.aload_n 0, 1) := by decide +kernel
theorem dX13_ofSectionNow_129 : decode cX13_ofSectionNow 129 = .ok (.getfield 51, 3) := by decide +kernel
theorem dX13_ofSectionNow_132 : decode cX13_ofSectionNow 132 = .ok (.iload_n 1, 1) := by decide +kernel
theorem dX13_ofSectionNow_133 : decode cX13_ofSectionNow 133 = .ok (.iaload, 1) := by decide +kernel
theorem dX13_ofSectionNow_134 : decode cX13_ofSectionNow 134 = .ok (.ireturn, 1) := by decide +kernel
def g_X13_ofSectionNow : Nat → EA := (t_n 84 (t_n 58 (t_n 47 (t_n 41 (t_n 1 (t_l 0 (a_iload 1 2)) (t_n 40 (t_l 1 (a_tsw 0 [40, 47, 54, 61, 86, 107] 128)) (t_l 40 (a_aload 1 0)))) (t_n 45 (t_n 44 (t_l 41 (a_getf 13 4)) (t_l 44 (a_iload 1 1))) (t_n 46 (t_l 45 (a_ild 0)) (t_l 46 a_iret)))) (t_n 52 (t_n 48 (t_l 47 (a_aload 1 0)) (t_n 51 (t_l 48 (a_getf 13 5)) (t_l 51 (a_iload 1 1)))) (t_n 54 (t_n 53 (t_l 52 (a_ild 0)) (t_l 53 a_iret)) (t_n 55 (t_l 54 (a_aload 1 0)) (t_l 55 (a_getf 13 6)))))) (t_n 69 (t_n 61 (t_n 59 (t_l 58 (a_iload 1 1)) (t_n 60 (t_l 59 (a_ild 0)) (t_l 60 a_iret))) (t_n 65 (t_n 62 (t_l 61 (a_aload 1 0)) (t_l 62 (a_getf 13 17))) (t_n 68 (t_l 65 (a_if 84 (fun x => decide (x = 0)))) (t_l 68 (a_aload 1 0))))) (t_n 76 (t_n 72 (t_l 69 (a_getf 13 18)) (t_n 75 (t_l 72 (a_getf 12 14)) (t_l 75 (a_iload 1 1)))) (t_n 80 (t_n 77 (t_l 76 (a_ild 1)) (t_l 77 (a_if 84 (fun x => decide (x = 0))))) (t_n 81 (t_l 80 (a_push 1 (.int 1))) (t_l 81 (a_goto 85))))))) (t_n 108 (t_n 97 (t_n 87 (t_n 85 (t_l 84 (a_push 1 (.int 0))) (t_n 86 (t_l 85 a_iret) (t_l 86 (a_aload 1 0)))) (t_n 93 (t_n 90 (t_l 87 (a_getf 13 17)) (t_l 90 (a_if 105 (fun x => decide (x = 0))))) (t_n 94 (t_l 93 (a_aload 1 0)) (t_l 94 (a_getf 13 18))))) (t_n 102 (t_n 100 (t_l 97 (a_getf 12 15)) (t_n 101 (t_l 100 (a_iload 1 1)) (t_l 101 (a_ild 0)))) (t_n 106 (t_n 105 (t_l 102 (a_goto 106)) (t_l 105 (a_push 1 (.int (-1))))) (t_n 107 (t_l 106 a_iret) (t_l 107 (a_aload 1 0)))))) (t_n 123 (t_n 115 (t_n 111 (t_l 108 (a_getf 13 17)) (t_n 114 (t_l 111 (a_if 126 (fun x => decide (x = 0)))) (t_l 114 (a_aload 1 0)))) (t_n 121 (t_n 118 (t_l 115 (a_getf 13 18)) (t_l 118 (a_getf 12 16))) (t_n 122 (t_l 121 (a_iload 1 1)) (t_l 122 (a_ild 0))))) (t_n 129 (t_n 127 (t_n 126 (t_l 123 (a_goto 127)) (t_l 126 (a_push 1 (.int 0)))) (t_n 128 (t_l 127 a_iret) (t_l 128 (a_aload 1 0)))) (t_n 133 (t_n 132 (t_l 129 (a_getf 13 19)) (t_l 132 (a_iload 1 1))) (t_n 134 (t_l 133 (a_ild 0)) (t_l 134 a_iret)))))))
set_option maxRecDepth 100000 in
theorem k_X13_ofSectionNow (d : Nat) : ∀ pc, ev_Ok cX13_ofSectionNow 3 [] RX13 lw_g lw_n lw_q vwCl false (ev_CO mt lw_g lw_n lw_q vwCl d) pc (g_X13_ofSectionNow pc) := (ok_t_n (ok_t_n (ok_t_n (ok_t_n (ok_t_n (ok_t_l (ok_iload_n dX13_ofSectionNow_0 rfl)) (ok_t_n (ok_t_l (ok_tsw dX13_ofSectionNow_1 rfl rfl rfl)) (ok_t_l (ok_aload_n dX13_ofSectionNow_40 rfl)))) (ok_t_n (ok_t_n (ok_t_l (ok_getfield dX13_ofSectionNow_41 (ci := 13) (kf := 4) rfl inGX13 (by decide) w_1566)) (ok_t_l (ok_iload_n dX13_ofSectionNow_44 rfl))) (ok_t_n (ok_t_l (ok_iaload dX13_ofSectionNow_45)) (ok_t_l (ok_ireturn dX13_ofSectionNow_46))))) (ok_t_n (ok_t_n (ok_t_l (ok_aload_n dX13_ofSectionNow_47 rfl)) (ok_t_n (ok_t_l (ok_getfield dX13_ofSectionNow_48 (ci := 13) (kf := 5) rfl inGX13 (by decide) w_1568)) (ok_t_l (ok_iload_n dX13_ofSectionNow_51 rfl)))) (ok_t_n (ok_t_n (ok_t_l (ok_iaload dX13_ofSectionNow_52)) (ok_t_l (ok_ireturn dX13_ofSectionNow_53))) (ok_t_n (ok_t_l (ok_aload_n dX13_ofSectionNow_54 rfl)) (ok_t_l (ok_getfield dX13_ofSectionNow_55 (ci := 13) (kf := 6) rfl inGX13 (by decide) w_1570)))))) (ok_t_n (ok_t_n (ok_t_n (ok_t_l (ok_iload_n dX13_ofSectionNow_58 rfl)) (ok_t_n (ok_t_l (ok_iaload dX13_ofSectionNow_59)) (ok_t_l (ok_ireturn dX13_ofSectionNow_60)))) (ok_t_n (ok_t_n (ok_t_l (ok_aload_n dX13_ofSectionNow_61 rfl)) (ok_t_l (ok_getfield dX13_ofSectionNow_62 (ci := 13) (kf := 17) rfl inGX13 (by decide) w_1590))) (ok_t_n (ok_t_l (ok_if_eq dX13_ofSectionNow_65 rfl)) (ok_t_l (ok_aload_n dX13_ofSectionNow_68 rfl))))) (ok_t_n (ok_t_n (ok_t_l (ok_getfield dX13_ofSectionNow_69 (ci := 13) (kf := 18) rfl inGX13 (by decide) w_1591)) (ok_t_n (ok_t_l (ok_getfieldN dX13_ofSectionNow_72 (ci := 12) (kf := 14) rfl inGX12 (by decide) (nst_52))) (ok_t_l (ok_iload_n dX13_ofSectionNow_75 rfl)))) (ok_t_n (ok_t_n (ok_t_l (ok_zaload dX13_ofSectionNow_76)) (ok_t_l (ok_if_eq dX13_ofSectionNow_77 rfl))) (ok_t_n (ok_t_l (ok_iconst dX13_ofSectionNow_80 rfl)) (ok_t_l (ok_goto dX13_ofSectionNow_81 rfl))))))) (ok_t_n (ok_t_n (ok_t_n (ok_t_n (ok_t_l (ok_iconst dX13_ofSectionNow_84 rfl)) (ok_t_n (ok_t_l (ok_ireturn dX13_ofSectionNow_85)) (ok_t_l (ok_aload_n dX13_ofSectionNow_86 rfl)))) (ok_t_n (ok_t_n (ok_t_l (ok_getfield dX13_ofSectionNow_87 (ci := 13) (kf := 17) rfl inGX13 (by decide) w_1590)) (ok_t_l (ok_if_eq dX13_ofSectionNow_90 rfl))) (ok_t_n (ok_t_l (ok_aload_n dX13_ofSectionNow_93 rfl)) (ok_t_l (ok_getfield dX13_ofSectionNow_94 (ci := 13) (kf := 18) rfl inGX13 (by decide) w_1591))))) (ok_t_n (ok_t_n (ok_t_l (ok_getfieldN dX13_ofSectionNow_97 (ci := 12) (kf := 15) rfl inGX12 (by decide) (nst_53))) (ok_t_n (ok_t_l (ok_iload_n dX13_ofSectionNow_100 rfl)) (ok_t_l (ok_iaload dX13_ofSectionNow_101)))) (ok_t_n (ok_t_n (ok_t_l (ok_goto dX13_ofSectionNow_102 rfl)) (ok_t_l (ok_iconst dX13_ofSectionNow_105 rfl))) (ok_t_n (ok_t_l (ok_ireturn dX13_ofSectionNow_106)) (ok_t_l (ok_aload_n dX13_ofSectionNow_107 rfl)))))) (ok_t_n (ok_t_n (ok_t_n (ok_t_l (ok_getfield dX13_ofSectionNow_108 (ci := 13) (kf := 17) rfl inGX13 (by decide) w_1590)) (ok_t_n (ok_t_l (ok_if_eq dX13_ofSectionNow_111 rfl)) (ok_t_l (ok_aload_n dX13_ofSectionNow_114 rfl)))) (ok_t_n (ok_t_n (ok_t_l (ok_getfield dX13_ofSectionNow_115 (ci := 13) (kf := 18) rfl inGX13 (by decide) w_1591)) (ok_t_l (ok_getfieldN dX13_ofSectionNow_118 (ci := 12) (kf := 16) rfl inGX12 (by decide) (nst_54)))) (ok_t_n (ok_t_l (ok_iload_n dX13_ofSectionNow_121 rfl)) (ok_t_l (ok_iaload dX13_ofSectionNow_122))))) (ok_t_n (ok_t_n (ok_t_n (ok_t_l (ok_goto dX13_ofSectionNow_123 rfl)) (ok_t_l (ok_iconst dX13_ofSectionNow_126 rfl))) (ok_t_n (ok_t_l (ok_ireturn dX13_ofSectionNow_127)) (ok_t_l (ok_aload_n dX13_ofSectionNow_128 rfl)))) (ok_t_n (ok_t_n (ok_t_l (ok_getfield dX13_ofSectionNow_129 (ci := 13) (kf := 19) rfl inGX13 (by decide) w_1592)) (ok_t_l (ok_iload_n dX13_ofSectionNow_132 rfl))) (ok_t_n (ok_t_l (ok_iaload dX13_ofSectionNow_133)) (ok_t_l (ok_ireturn dX13_ofSectionNow_134))))))))
theorem dX13_ofSection_0 : decode cX13_ofSection 0 = .ok (.aload_n 0, 1) := by decide +kernel
theorem dX13_ofSection_1 : decode cX13_ofSection 1 = .ok (.iconst 0, 1) := by decide +kernel
theorem dX13_ofSection_2 : decode cX13_ofSection 2 = .ok (.putfield 81, 3) := by decide +kernel
theorem dX13_ofSection_5 : decode cX13_ofSection 5 = .ok (.aload_n 0, 1) := by decide +kernel
theorem dX13_ofSection_6 : decode cX13_ofSection 6 = .ok (.iload_n 1, 1) := by decide +kernel
theorem dX13_ofSection_7 : decode cX13_ofSection 7 = .ok (.invokevirtual 105, 3) := by decide +kernel
theorem dX13_ofSection_10 : decode cX13_ofSection 10 = .ok (.ifCond .ne 9, 3) := by decide +kernel
theorem dX13_ofSection_13 : decode cX13_ofSection 13 = .ok (.aload_n 0, 1) := by decide +kernel
theorem dX13_ofSection_14 : decode cX13_ofSection 14 = .ok (.iconst 1, 1) := by decide +kernel
theorem dX13_ofSection_15 : decode cX13_ofSection 15 = .ok (.invokevirtual 94, 3) := by decide +kernel
theorem dX13_ofSection_18 : decode cX13_ofSection 18 = .ok (.ireturn, 1) := by decide +kernel
theorem dX13_ofSection_19 : decode cX13_ofSection 19 = .ok (.iload_n 2, 1) := by decide +kernel
theorem dX13_ofSection_20 : decode cX13_ofSection 20 = .ok (.iconst 0, 1) := by decide +kernel
theorem dX13_ofSection_21 : decode cX13_ofSection 21 = .ok (.bipush 6, 2) := by decide +kernel
theorem dX13_ofSection_23 : decode cX13_ofSection 23 = .ok (.invokestatic 87, 3) := by decide +kernel
theorem dX13_ofSection_26 : decode cX13_ofSection 26 = .ok (.ifCond .eq 12, 3) := by decide +kernel
theorem dX13_ofSection_29 : decode cX13_ofSection 29 = .ok (.aload_n 0, 1) := by decide +kernel
theorem dX13_ofSection_30 : decode cX13_ofSection 30 = .ok (.iload_n 1, 1) := by decide +kernel
theorem dX13_ofSection_31 : decode cX13_ofSection 31 = .ok (.iload_n 2, 1) := by decide +kernel
theorem dX13_ofSection_32 : decode cX13_ofSection 32 = .ok (.invokevirtual 170, 3) := by decide +kernel
theorem dX13_ofSection_35 : decode cX13_ofSection 35 = .ok (.goto 8, 3) := by decide +kernel
theorem dX13_ofSection_38 : decode cX13_ofSection 38 = .ok (.aload_n 0, 1) := by decide +kernel
theorem dX13_ofSection_39 : decode cX13_ofSection 39 = .ok (.iconst 2, 1) := by decide +kernel
theorem dX13_ofSection_40 : decode cX13_ofSection 40 = .ok (.invokevirtual 94, 3) := by decide +kernel
theorem dX13_ofSection_43 : decode cX13_ofSection 43 = .ok (.ireturn, 1) := by decide +kernel
def g_X13_ofSection : Nat → EA := (t_n 20 (t_n 10 (t_n 5 (t_n 1 (t_l 0 (a_aload 1 0)) (t_n 2 (t_l 1 (a_push 1 (.int 0))) (t_l 2 (a_putf 0 13 0)))) (t_n 6 (t_l 5 (a_aload 1 0)) (t_n 7 (t_l 6 (a_iload 1 1)) (t_l 7 (a_inv true 234 2 (some 13)))))) (t_n 15 (t_n 13 (t_l 10 (a_if 19 (fun x => !decide (x = 0)))) (t_n 14 (t_l 13 (a_aload 1 0)) (t_l 14 (a_push 1 (.int 1))))) (t_n 18 (t_l 15 (a_inv true 229 2 (some 13))) (t_n 19 (t_l 18 a_iret) (t_l 19 (a_iload 1 2)))))) (t_n 31 (t_n 26 (t_n 21 (t_l 20 (a_push 1 (.int 0))) (t_n 23 (t_l 21 (a_push 2 (.int 6))) (t_l 23 (a_inv true 230 3 none)))) (t_n 29 (t_l 26 (a_if 38 (fun x => decide (x = 0)))) (t_n 30 (t_l 29 (a_aload 1 0)) (t_l 30 (a_iload 1 1))))) (t_n 38 (t_n 32 (t_l 31 (a_iload 1 2)) (t_n 35 (t_l 32 (a_inv true 254 3 (some 13))) (t_l 35 (a_goto 43)))) (t_n 40 (t_n 39 (t_l 38 (a_aload 1 0)) (t_l 39 (a_push 1 (.int 2)))) (t_n 43 (t_l 40 (a_inv true 229 2 (some 13))) (t_l 43 a_iret))))))
set_option maxRecDepth 100000 in
theorem k_X13_ofSection (d : Nat) : ∀ pc, ev_Ok cX13_ofSection 3 [] RX13 lw_g lw_n lw_q vwCl false (ev_CO mt lw_g lw_n lw_q vwCl d) pc (g_X13_ofSection pc) := (ok_t_n (ok_t_n (ok_t_n (ok_t_n (ok_t_l (ok_aload_n dX13_ofSection_0 rfl)) (ok_t_n (ok_t_l (ok_iconst dX13_ofSection_1 rfl)) (ok_t_l (ok_putfield dX13_ofSection_2 (ci := 13) (kf := 0) rfl inGX13 (by decide) tyX13_ok nmX13 rfl w_1559 rfl)))) (ok_t_n (ok_t_l (ok_aload_n dX13_ofSection_5 rfl)) (ok_t_n (ok_t_l (ok_iload_n dX13_ofSection_6 rfl)) (ok_t_l (ok_inv (run_V (y := 234) (n := 1) (ci := 13) dX13_ofSection_7 cz_234 gdG cc_234 ci_234 w_1694 cm_234 cs_234 cd_234 cl_234 rfl rfl)))))) (ok_t_n (ok_t_n (ok_t_l (ok_if_ne dX13_ofSection_10 rfl)) (ok_t_n (ok_t_l (ok_aload_n dX13_ofSection_13 rfl)) (ok_t_l (ok_iconst dX13_ofSection_14 rfl)))) (ok_t_n (ok_t_l (ok_inv (run_V (y := 229) (n := 1) (ci := 13) dX13_ofSection_15 cz_229 gdG cc_229 ci_229 w_1672 cm_229 cs_229 cd_229 cl_229 rfl rfl))) (ok_t_n (ok_t_l (ok_ireturn dX13_ofSection_18)) (ok_t_l (ok_iload_n dX13_ofSection_19 rfl)))))) (ok_t_n (ok_t_n (ok_t_n (ok_t_l (ok_iconst dX13_ofSection_20 rfl)) (ok_t_n (ok_t_l (ok_bipush dX13_ofSection_21 rfl)) (ok_t_l (ok_inv (run_S (y := 230) (n := 3) dX13_ofSection_23 cz_230 gdG cc_230 ci_230 w_1684 cm_230 cd_230 cl_230))))) (ok_t_n (ok_t_l (ok_if_eq dX13_ofSection_26 rfl)) (ok_t_n (ok_t_l (ok_aload_n dX13_ofSection_29 rfl)) (ok_t_l (ok_iload_n dX13_ofSection_30 rfl))))) (ok_t_n (ok_t_n (ok_t_l (ok_iload_n dX13_ofSection_31 rfl)) (ok_t_n (ok_t_l (ok_inv (run_V (y := 254) (n := 2) (ci := 13) dX13_ofSection_32 cz_254 gdG cc_254 ci_254 w_1951 cm_254 cs_254 cd_254 cl_254 rfl rfl))) (ok_t_l (ok_goto dX13_ofSection_35 rfl)))) (ok_t_n (ok_t_n (ok_t_l (ok_aload_n dX13_ofSection_38 rfl)) (ok_t_l (ok_iconst dX13_ofSection_39 rfl))) (ok_t_n (ok_t_l (ok_inv (run_V (y := 229) (n := 1) (ci := 13) dX13_ofSection_40 cz_229 gdG cc_229 ci_229 w_1672 cm_229 cs_229 cd_229 cl_229 rfl rfl))) (ok_t_l (ok_ireturn dX13_ofSection_43)))))))
theorem dX13_ofNameNow_0 : decode cX13_ofNameNow 0 = .ok (.aload_n 0, 1) := by decide +kernel
theorem dX13_ofNameNow_1 : decode cX13_ofNameNow 1 = .ok (.getfield 135, 3) := by decide +kernel
theorem dX13_ofNameNow_4 : decode cX13_ofNameNow 4 = .ok (.ifCond .eq 15, 3) := by decide +kernel
theorem dX13_ofNameNow_7 : decode cX13_ofNameNow 7 = .ok (.aload_n 0, 1) := by decide +kernel
theorem dX13_ofNameNow_8 : decode cX13_ofNameNow 8 = .ok (.getfield 139, 3) := by decide +kernel
theorem dX13_ofNameNow_11 : decode cX13_ofNameNow 11 = .ok (.iload_n 1, 1) := by decide +kernel
theorem dX13_ofNameNow_12 : decode cX13_ofNameNow 12 = .ok (.iload_n 2, 1) := by decide +kernel
theorem dX13_ofNameNow_13 : decode cX13_ofNameNow 13 = .ok (.invokevirtual 173, 3) := by decide +kernel
theorem dX13_ofNameNow_16 : decode cX13_ofNameNow 16 = .ok (.goto 13, 3) := by decide +kernel
theorem dX13_ofNameNow_19 : decode cX13_ofNameNow 19 = .ok (.iload_n 2, 1) := by decide +kernel
theorem dX13_ofNameNow_20 : decode cX13_ofNameNow 20 = .ok (.iconst 3, 1) := by decide +kernel
theorem dX13_ofNameNow_21 : decode cX13_ofNameNow 21 = .ok (.if_icmp .ge 7, 3) := by decide +kernel
theorem dX13_ofNameNow_24 : decode cX13_ofNameNow 24 = .ok (.iconst (-1), 1) := by decide +kernel
theorem dX13_ofNameNow_25 : decode cX13_ofNameNow 25 = .ok (.goto 4, 3) := by decide +kernel
theorem dX13_ofNameNow_28 : decode cX13_ofNameNow 28 = .ok (.iconst 0, 1) := by decide +kernel
theorem dX13_ofNameNow_29 : decode cX13_ofNameNow 29 = .ok (.ireturn, 1) := by decide +kernel
def g_X13_ofNameNow : Nat → EA := (t_n 16 (t_n 8 (t_n 4 (t_n 1 (t_l 0 (a_aload 1 0)) (t_l 1 (a_getf 13 17))) (t_n 7 (t_l 4 (a_if 19 (fun x => decide (x = 0)))) (t_l 7 (a_aload 1 0)))) (t_n 12 (t_n 11 (t_l 8 (a_getf 13 18)) (t_l 11 (a_iload 1 1))) (t_n 13 (t_l 12 (a_iload 1 2)) (t_l 13 (a_inv false 225 3 (some 12)))))) (t_n 24 (t_n 20 (t_n 19 (t_l 16 (a_goto 29)) (t_l 19 (a_iload 1 2))) (t_n 21 (t_l 20 (a_push 1 (.int 3))) (t_l 21 (a_ic 28 (fun x y => decide (y ≤ x)))))) (t_n 28 (t_n 25 (t_l 24 (a_push 1 (.int (-1)))) (t_l 25 (a_goto 29))) (t_n 29 (t_l 28 (a_push 1 (.int 0))) (t_l 29 a_iret)))))
set_option maxRecDepth 100000 in
theorem k_X13_ofNameNow (d : Nat) : ∀ pc, ev_Ok cX13_ofNameNow 3 [] RX13 lw_g lw_n lw_q vwCl false (ev_CO mt lw_g lw_n lw_q vwCl d) pc (g_X13_ofNameNow pc) := (ok_t_n (ok_t_n (ok_t_n (ok_t_n (ok_t_l (ok_aload_n dX13_ofNameNow_0 rfl)) (ok_t_l (ok_getfield dX13_ofNameNow_1 (ci := 13) (kf := 17) rfl inGX13 (by decide) w_1590))) (ok_t_n (ok_t_l (ok_if_eq dX13_ofNameNow_4 rfl)) (ok_t_l (ok_aload_n dX13_ofNameNow_7 rfl)))) (ok_t_n (ok_t_n (ok_t_l (ok_getfield dX13_ofNameNow_8 (ci := 13) (kf := 18) rfl inGX13 (by decide) w_1591)) (ok_t_l (ok_iload_n dX13_ofNameNow_11 rfl))) (ok_t_n (ok_t_l (ok_iload_n dX13_ofNameNow_12 rfl)) (ok_t_l (ok_inv (run_VN (y := 225) (n := 2) (ci := 12) dX13_ofNameNow_13 cz_225 gdG cc_225 ci_225 nst_62 cm_225 cs_225 cd_225 cl_225 rfl rfl)))))) (ok_t_n (ok_t_n (ok_t_n (ok_t_l (ok_goto dX13_ofNameNow_16 rfl)) (ok_t_l (ok_iload_n dX13_ofNameNow_19 rfl))) (ok_t_n (ok_t_l (ok_iconst dX13_ofNameNow_20 rfl)) (ok_t_l (ok_icmp_ge dX13_ofNameNow_21 rfl)))) (ok_t_n (ok_t_n (ok_t_l (ok_iconst dX13_ofNameNow_24 rfl)) (ok_t_l (ok_goto dX13_ofNameNow_25 rfl))) (ok_t_n (ok_t_l (ok_iconst dX13_ofNameNow_28 rfl)) (ok_t_l (ok_ireturn dX13_ofNameNow_29))))))
theorem dX13_ofName_0 : decode cX13_ofName 0 = .ok (.aload_n 0, 1) := by decide +kernel
theorem dX13_ofName_1 : decode cX13_ofName 1 = .ok (.iconst 0, 1) := by decide +kernel
theorem dX13_ofName_2 : decode cX13_ofName 2 = .ok (.putfield 81, 3) := by decide +kernel
theorem dX13_ofName_5 : decode cX13_ofName 5 = .ok (.iload_n 1, 1) := by decide +kernel
theorem dX13_ofName_6 : decode cX13_ofName 6 = .ok (.invokestatic 112, 3) := by decide +kernel
theorem dX13_ofName_9 : decode cX13_ofName 9 = .ok (.ifCond .eq 21, 3) := by decide +kernel
theorem dX13_ofName_12 : decode cX13_ofName 12 = .ok (.iload_n 2, 1) := by decide +kernel
theorem dX13_ofName_13 : decode cX13_ofName 13 = .ok (.iconst 0, 1) := by decide +kernel
theorem dX13_ofName_14 : decode cX13_ofName 14 = .ok (.iconst 4, 1) := by decide +kernel
theorem dX13_ofName_15 : decode cX13_ofName 15 = .ok (.invokestatic 87, 3) := by decide +kernel
theorem dX13_ofName_18 : decode cX13_ofName 18 = .ok (.ifCond .eq 12, 3) := by decide +kernel
theorem dX13_ofName_21 : decode cX13_ofName 21 = .ok (.aload_n 0, 1) := by decide +kernel
theorem dX13_ofName_22 : decode cX13_ofName 22 = .ok (.iload_n 1, 1) := by decide +kernel
theorem dX13_ofName_23 : decode cX13_ofName 23 = .ok (.iload_n 2, 1) := by decide +kernel
theorem dX13_ofName_24 : decode cX13_ofName 24 = .ok (.invokevirtual 176, 3) := by decide +kernel
theorem dX13_ofName_27 : decode cX13_ofName 27 = .ok (.goto 8, 3) := by decide +kernel
theorem dX13_ofName_30 : decode cX13_ofName 30 = .ok (.aload_n 0, 1) := by decide +kernel
theorem dX13_ofName_31 : decode cX13_ofName 31 = .ok (.iconst 1, 1) := by decide +kernel
theorem dX13_ofName_32 : decode cX13_ofName 32 = .ok (.invokevirtual 94, 3) := by decide +kernel
theorem dX13_ofName_35 : decode cX13_ofName 35 = .ok (.ireturn, 1) := by decide +kernel
def g_X13_ofName : Nat → EA := (t_n 18 (t_n 9 (t_n 2 (t_n 1 (t_l 0 (a_aload 1 0)) (t_l 1 (a_push 1 (.int 0)))) (t_n 5 (t_l 2 (a_putf 0 13 0)) (t_n 6 (t_l 5 (a_iload 1 1)) (t_l 6 (a_inv true 235 1 none))))) (t_n 13 (t_n 12 (t_l 9 (a_if 30 (fun x => decide (x = 0)))) (t_l 12 (a_iload 1 2))) (t_n 14 (t_l 13 (a_push 1 (.int 0))) (t_n 15 (t_l 14 (a_push 1 (.int 4))) (t_l 15 (a_inv true 230 3 none)))))) (t_n 27 (t_n 22 (t_n 21 (t_l 18 (a_if 30 (fun x => decide (x = 0)))) (t_l 21 (a_aload 1 0))) (t_n 23 (t_l 22 (a_iload 1 1)) (t_n 24 (t_l 23 (a_iload 1 2)) (t_l 24 (a_inv true 256 3 (some 13)))))) (t_n 31 (t_n 30 (t_l 27 (a_goto 35)) (t_l 30 (a_aload 1 0))) (t_n 32 (t_l 31 (a_push 1 (.int 1))) (t_n 35 (t_l 32 (a_inv true 229 2 (some 13))) (t_l 35 a_iret))))))
set_option maxRecDepth 100000 in
theorem k_X13_ofName (d : Nat) : ∀ pc, ev_Ok cX13_ofName 3 [] RX13 lw_g lw_n lw_q vwCl false (ev_CO mt lw_g lw_n lw_q vwCl d) pc (g_X13_ofName pc) := (ok_t_n (ok_t_n (ok_t_n (ok_t_n (ok_t_l (ok_aload_n dX13_ofName_0 rfl)) (ok_t_l (ok_iconst dX13_ofName_1 rfl))) (ok_t_n (ok_t_l (ok_putfield dX13_ofName_2 (ci := 13) (kf := 0) rfl inGX13 (by decide) tyX13_ok nmX13 rfl w_1559 rfl)) (ok_t_n (ok_t_l (ok_iload_n dX13_ofName_5 rfl)) (ok_t_l (ok_inv (run_S (y := 235) (n := 1) dX13_ofName_6 cz_235 gdG cc_235 ci_235 w_1706 cm_235 cd_235 cl_235)))))) (ok_t_n (ok_t_n (ok_t_l (ok_if_eq dX13_ofName_9 rfl)) (ok_t_l (ok_iload_n dX13_ofName_12 rfl))) (ok_t_n (ok_t_l (ok_iconst dX13_ofName_13 rfl)) (ok_t_n (ok_t_l (ok_iconst dX13_ofName_14 rfl)) (ok_t_l (ok_inv (run_S (y := 230) (n := 3) dX13_ofName_15 cz_230 gdG cc_230 ci_230 w_1684 cm_230 cd_230 cl_230))))))) (ok_t_n (ok_t_n (ok_t_n (ok_t_l (ok_if_eq dX13_ofName_18 rfl)) (ok_t_l (ok_aload_n dX13_ofName_21 rfl))) (ok_t_n (ok_t_l (ok_iload_n dX13_ofName_22 rfl)) (ok_t_n (ok_t_l (ok_iload_n dX13_ofName_23 rfl)) (ok_t_l (ok_inv (run_V (y := 256) (n := 2) (ci := 13) dX13_ofName_24 cz_256 gdG cc_256 ci_256 w_1959 cm_256 cs_256 cd_256 cl_256 rfl rfl)))))) (ok_t_n (ok_t_n (ok_t_l (ok_goto dX13_ofName_27 rfl)) (ok_t_l (ok_aload_n dX13_ofName_30 rfl))) (ok_t_n (ok_t_l (ok_iconst dX13_ofName_31 rfl)) (ok_t_n (ok_t_l (ok_inv (run_V (y := 229) (n := 1) (ci := 13) dX13_ofName_32 cz_229 gdG cc_229 ci_229 w_1672 cm_229 cs_229 cd_229 cl_229 rfl rfl))) (ok_t_l (ok_ireturn dX13_ofName_35)))))))
theorem dX13_fault_0 : decode cX13_fault 0 = .ok (.aload_n 0, 1) := by decide +kernel
theorem dX13_fault_1 : decode cX13_fault 1 = .ok (.iconst 0, 1) := by decide +kernel
theorem dX13_fault_2 : decode cX13_fault 2 = .ok (.putfield 81, 3) := by decide +kernel
theorem dX13_fault_5 : decode cX13_fault 5 = .ok (.aload_n 0, 1) := by decide +kernel
theorem dX13_fault_6 : decode cX13_fault 6 = .ok (.getfield 135, 3) := by decide +kernel
theorem dX13_fault_9 : decode cX13_fault 9 = .ok (.ifCond .eq 20, 3) := by decide +kernel
theorem dX13_fault_12 : decode cX13_fault 12 = .ok (.iload_n 1, 1) := by decide +kernel
theorem dX13_fault_13 : decode cX13_fault 13 = .ok (.iconst 0, 1) := by decide +kernel
theorem dX13_fault_14 : decode cX13_fault 14 = .ok (.aload_n 0, 1) := by decide +kernel
theorem dX13_fault_15 : decode cX13_fault 15 = .ok (.getfield 139, 3) := by decide +kernel
theorem dX13_fault_18 : decode cX13_fault 18 = .ok (.getfield 158, 3) := by decide +kernel
theorem dX13_fault_21 : decode cX13_fault 21 = .ok (.iconst 1, 1) := by decide +kernel
theorem dX13_fault_22 : decode cX13_fault 22 = .ok (.isub, 1) := by decide +kernel
theorem dX13_fault_23 : decode cX13_fault 23 = .ok (.invokestatic 87, 3) := by decide +kernel
theorem dX13_fault_26 : decode cX13_fault 26 = .ok (.ifCond .ne 9, 3) := by decide +kernel
theorem dX13_fault_29 : decode cX13_fault 29 = .ok (.aload_n 0, 1) := by decide +kernel
theorem dX13_fault_30 : decode cX13_fault 30 = .ok (.iconst 1, 1) := by decide +kernel
theorem dX13_fault_31 : decode cX13_fault 31 = .ok (.invokevirtual 94, 3) := by decide +kernel
theorem dX13_fault_34 : decode cX13_fault 34 = .ok (.ireturn, 1) := by decide +kernel
theorem dX13_fault_35 : decode cX13_fault 35 = .ok (.iload_n 2, 1) := by decide +kernel
theorem dX13_fault_36 : decode cX13_fault 36 = .ok (.iconst 0, 1) := by decide +kernel
theorem dX13_fault_37 : decode cX13_fault 37 = .ok (.iconst 3, 1) := by decide +kernel
theorem dX13_fault_38 : decode cX13_fault 38 = .ok (.invokestatic 87, 3) := by decide +kernel
theorem dX13_fault_41 : decode cX13_fault 41 = .ok (.ifCond .eq 19, 3) := by decide +kernel
theorem dX13_fault_44 : decode cX13_fault 44 = .ok (.aload_n 0, 1) := by decide +kernel
theorem dX13_fault_45 : decode cX13_fault 45 = .ok (.getfield 139, 3) := by decide +kernel
theorem dX13_fault_48 : decode cX13_fault 48 = .ok (.getfield 179, 3) := by decide +kernel
theorem dX13_fault_51 : decode cX13_fault 51 = .ok (.iconst 4, 1) := by decide +kernel
theorem dX13_fault_52 : decode cX13_fault 52 = .ok (.iload_n 1, 1) := by decide +kernel
theorem dX13_fault_53 : decode cX13_fault 53 = .ok (.imul, 1) := by decide +kernel
theorem dX13_fault_54 : decode cX13_fault 54 = .ok (.iload_n 2, 1) := by decide +kernel
theorem dX13_fault_55 : decode cX13_fault 55 = .ok (.iadd, 1) := by decide +kernel
theorem dX13_fault_56 : decode cX13_fault 56 = .ok (.iaload, 1) := by decide +kernel
theorem dX13_fault_57 : decode cX13_fault 57 = .ok (.goto 8, 3) := by decide +kernel
theorem dX13_fault_60 : decode cX13_fault 60 = .ok (.aload_n 0, 1) := by decide +kernel
theorem dX13_fault_61 : decode cX13_fault 61 = .ok (.iconst 2, 1) := by decide +kernel
theorem dX13_fault_62 : decode cX13_fault 62 = .ok (.invokevirtual 94, 3) := by decide +kernel
theorem dX13_fault_65 : decode cX13_fault 65 = .ok (.ireturn, 1) := by decide +kernel
def g_X13_fault : Nat → EA := (t_n 35 (t_n 15 (t_n 6 (t_n 2 (t_n 1 (t_l 0 (a_aload 1 0)) (t_l 1 (a_push 1 (.int 0)))) (t_n 5 (t_l 2 (a_putf 0 13 0)) (t_l 5 (a_aload 1 0)))) (t_n 12 (t_n 9 (t_l 6 (a_getf 13 17)) (t_l 9 (a_if 29 (fun x => decide (x = 0))))) (t_n 13 (t_l 12 (a_iload 1 1)) (t_n 14 (t_l 13 (a_push 1 (.int 0))) (t_l 14 (a_aload 1 0)))))) (t_n 26 (t_n 21 (t_n 18 (t_l 15 (a_getf 13 18)) (t_l 18 (a_getf 12 21))) (t_n 22 (t_l 21 (a_push 1 (.int 1))) (t_n 23 (t_l 22 (a_ii 1 (fun x y => x - y))) (t_l 23 (a_inv true 230 3 none))))) (t_n 30 (t_n 29 (t_l 26 (a_if 35 (fun x => !decide (x = 0)))) (t_l 29 (a_aload 1 0))) (t_n 31 (t_l 30 (a_push 1 (.int 1))) (t_n 34 (t_l 31 (a_inv true 229 2 (some 13))) (t_l 34 a_iret)))))) (t_n 52 (t_n 41 (t_n 37 (t_n 36 (t_l 35 (a_iload 1 2)) (t_l 36 (a_push 1 (.int 0)))) (t_n 38 (t_l 37 (a_push 1 (.int 3))) (t_l 38 (a_inv true 230 3 none)))) (t_n 45 (t_n 44 (t_l 41 (a_if 60 (fun x => decide (x = 0)))) (t_l 44 (a_aload 1 0))) (t_n 48 (t_l 45 (a_getf 13 18)) (t_n 51 (t_l 48 (a_getf 12 22)) (t_l 51 (a_push 1 (.int 4))))))) (t_n 57 (t_n 54 (t_n 53 (t_l 52 (a_iload 1 1)) (t_l 53 (a_ii 1 (fun x y => x * y)))) (t_n 55 (t_l 54 (a_iload 1 2)) (t_n 56 (t_l 55 (a_ii 1 (fun x y => x + y))) (t_l 56 (a_ild 0))))) (t_n 61 (t_n 60 (t_l 57 (a_goto 65)) (t_l 60 (a_aload 1 0))) (t_n 62 (t_l 61 (a_push 1 (.int 2))) (t_n 65 (t_l 62 (a_inv true 229 2 (some 13))) (t_l 65 a_iret)))))))
set_option maxRecDepth 100000 in
theorem k_X13_fault (d : Nat) : ∀ pc, ev_Ok cX13_fault 3 [] RX13 lw_g lw_n lw_q vwCl false (ev_CO mt lw_g lw_n lw_q vwCl d) pc (g_X13_fault pc) := (ok_t_n (ok_t_n (ok_t_n (ok_t_n (ok_t_n (ok_t_l (ok_aload_n dX13_fault_0 rfl)) (ok_t_l (ok_iconst dX13_fault_1 rfl))) (ok_t_n (ok_t_l (ok_putfield dX13_fault_2 (ci := 13) (kf := 0) rfl inGX13 (by decide) tyX13_ok nmX13 rfl w_1559 rfl)) (ok_t_l (ok_aload_n dX13_fault_5 rfl)))) (ok_t_n (ok_t_n (ok_t_l (ok_getfield dX13_fault_6 (ci := 13) (kf := 17) rfl inGX13 (by decide) w_1590)) (ok_t_l (ok_if_eq dX13_fault_9 rfl))) (ok_t_n (ok_t_l (ok_iload_n dX13_fault_12 rfl)) (ok_t_n (ok_t_l (ok_iconst dX13_fault_13 rfl)) (ok_t_l (ok_aload_n dX13_fault_14 rfl)))))) (ok_t_n (ok_t_n (ok_t_n (ok_t_l (ok_getfield dX13_fault_15 (ci := 13) (kf := 18) rfl inGX13 (by decide) w_1591)) (ok_t_l (ok_getfieldN dX13_fault_18 (ci := 12) (kf := 21) rfl inGX12 (by decide) (nst_58)))) (ok_t_n (ok_t_l (ok_iconst dX13_fault_21 rfl)) (ok_t_n (ok_t_l (ok_isub dX13_fault_22)) (ok_t_l (ok_inv (run_S (y := 230) (n := 3) dX13_fault_23 cz_230 gdG cc_230 ci_230 w_1684 cm_230 cd_230 cl_230)))))) (ok_t_n (ok_t_n (ok_t_l (ok_if_ne dX13_fault_26 rfl)) (ok_t_l (ok_aload_n dX13_fault_29 rfl))) (ok_t_n (ok_t_l (ok_iconst dX13_fault_30 rfl)) (ok_t_n (ok_t_l (ok_inv (run_V (y := 229) (n := 1) (ci := 13) dX13_fault_31 cz_229 gdG cc_229 ci_229 w_1672 cm_229 cs_229 cd_229 cl_229 rfl rfl))) (ok_t_l (ok_ireturn dX13_fault_34))))))) (ok_t_n (ok_t_n (ok_t_n (ok_t_n (ok_t_l (ok_iload_n dX13_fault_35 rfl)) (ok_t_l (ok_iconst dX13_fault_36 rfl))) (ok_t_n (ok_t_l (ok_iconst dX13_fault_37 rfl)) (ok_t_l (ok_inv (run_S (y := 230) (n := 3) dX13_fault_38 cz_230 gdG cc_230 ci_230 w_1684 cm_230 cd_230 cl_230))))) (ok_t_n (ok_t_n (ok_t_l (ok_if_eq dX13_fault_41 rfl)) (ok_t_l (ok_aload_n dX13_fault_44 rfl))) (ok_t_n (ok_t_l (ok_getfield dX13_fault_45 (ci := 13) (kf := 18) rfl inGX13 (by decide) w_1591)) (ok_t_n (ok_t_l (ok_getfieldN dX13_fault_48 (ci := 12) (kf := 22) rfl inGX12 (by decide) (nst_59))) (ok_t_l (ok_iconst dX13_fault_51 rfl)))))) (ok_t_n (ok_t_n (ok_t_n (ok_t_l (ok_iload_n dX13_fault_52 rfl)) (ok_t_l (ok_imul dX13_fault_53))) (ok_t_n (ok_t_l (ok_iload_n dX13_fault_54 rfl)) (ok_t_n (ok_t_l (ok_iadd dX13_fault_55)) (ok_t_l (ok_iaload dX13_fault_56))))) (ok_t_n (ok_t_n (ok_t_l (ok_goto dX13_fault_57 rfl)) (ok_t_l (ok_aload_n dX13_fault_60 rfl))) (ok_t_n (ok_t_l (ok_iconst dX13_fault_61 rfl)) (ok_t_n (ok_t_l (ok_inv (run_V (y := 229) (n := 1) (ci := 13) dX13_fault_62 cz_229 gdG cc_229 ci_229 w_1672 cm_229 cs_229 cd_229 cl_229 rfl rfl))) (ok_t_l (ok_ireturn dX13_fault_65))))))))
theorem dX13_wordAt_0 : decode cX13_wordAt 0 = .ok (.aload_n 0, 1) := by decide +kernel
theorem dX13_wordAt_1 : decode cX13_wordAt 1 = .ok (.iconst 0, 1) := by decide +kernel
theorem dX13_wordAt_2 : decode cX13_wordAt 2 = .ok (.putfield 81, 3) := by decide +kernel
theorem dX13_wordAt_5 : decode cX13_wordAt 5 = .ok (.aload_n 0, 1) := by decide +kernel
theorem dX13_wordAt_6 : decode cX13_wordAt 6 = .ok (.getfield 135, 3) := by decide +kernel
theorem dX13_wordAt_9 : decode cX13_wordAt 9 = .ok (.ifCond .eq 32, 3) := by decide +kernel
theorem dX13_wordAt_12 : decode cX13_wordAt 12 = .ok (.iload_n 1, 1) := by decide +kernel
theorem dX13_wordAt_13 : decode cX13_wordAt 13 = .ok (.iconst 0, 1) := by decide +kernel
theorem dX13_wordAt_14 : decode cX13_wordAt 14 = .ok (.aload_n 0, 1) := by decide +kernel
theorem dX13_wordAt_15 : decode cX13_wordAt 15 = .ok (.getfield 139, 3) := by decide +kernel
theorem dX13_wordAt_18 : decode cX13_wordAt 18 = .ok (.getfield 182, 3) := by decide +kernel
theorem dX13_wordAt_21 : decode cX13_wordAt 21 = .ok (.iconst 1, 1) := by decide +kernel
theorem dX13_wordAt_22 : decode cX13_wordAt 22 = .ok (.isub, 1) := by decide +kernel
theorem dX13_wordAt_23 : decode cX13_wordAt 23 = .ok (.invokestatic 87, 3) := by decide +kernel
theorem dX13_wordAt_26 : decode cX13_wordAt 26 = .ok (.ifCond .eq 15, 3) := by decide +kernel
theorem dX13_wordAt_29 : decode cX13_wordAt 29 = .ok (.aload_n 0, 1) := by decide +kernel
theorem dX13_wordAt_30 : decode cX13_wordAt 30 = .ok (.getfield 139, 3) := by decide +kernel
theorem dX13_wordAt_33 : decode cX13_wordAt 33 = .ok (.getfield 185, 3) := by decide +kernel
theorem dX13_wordAt_36 : decode cX13_wordAt 36 = .ok (.iload_n 1, 1) := by decide +kernel
theorem dX13_wordAt_37 : decode cX13_wordAt 37 = .ok (.iaload, 1) := by decide +kernel
theorem dX13_wordAt_38 : decode cX13_wordAt 38 = .ok (.goto 8, 3) := by decide +kernel
theorem dX13_wordAt_41 : decode cX13_wordAt 41 = .ok (.aload_n 0, 1) := by decide +kernel
theorem dX13_wordAt_42 : decode cX13_wordAt 42 = .ok (.iconst 1, 1) := by decide +kernel
theorem dX13_wordAt_43 : decode cX13_wordAt 43 = .ok (.invokevirtual 94, 3) := by decide +kernel
theorem dX13_wordAt_46 : decode cX13_wordAt 46 = .ok (.ireturn, 1) := by decide +kernel
def g_X13_wordAt : Nat → EA := (t_n 22 (t_n 12 (t_n 5 (t_n 1 (t_l 0 (a_aload 1 0)) (t_n 2 (t_l 1 (a_push 1 (.int 0))) (t_l 2 (a_putf 0 13 0)))) (t_n 6 (t_l 5 (a_aload 1 0)) (t_n 9 (t_l 6 (a_getf 13 17)) (t_l 9 (a_if 41 (fun x => decide (x = 0))))))) (t_n 15 (t_n 13 (t_l 12 (a_iload 1 1)) (t_n 14 (t_l 13 (a_push 1 (.int 0))) (t_l 14 (a_aload 1 0)))) (t_n 18 (t_l 15 (a_getf 13 18)) (t_n 21 (t_l 18 (a_getf 12 19)) (t_l 21 (a_push 1 (.int 1))))))) (t_n 36 (t_n 29 (t_n 23 (t_l 22 (a_ii 1 (fun x y => x - y))) (t_n 26 (t_l 23 (a_inv true 230 3 none)) (t_l 26 (a_if 41 (fun x => decide (x = 0)))))) (t_n 30 (t_l 29 (a_aload 1 0)) (t_n 33 (t_l 30 (a_getf 13 18)) (t_l 33 (a_getf 12 23))))) (t_n 41 (t_n 37 (t_l 36 (a_iload 1 1)) (t_n 38 (t_l 37 (a_ild 0)) (t_l 38 (a_goto 46)))) (t_n 43 (t_n 42 (t_l 41 (a_aload 1 0)) (t_l 42 (a_push 1 (.int 1)))) (t_n 46 (t_l 43 (a_inv true 229 2 (some 13))) (t_l 46 a_iret))))))
set_option maxRecDepth 100000 in
theorem k_X13_wordAt (d : Nat) : ∀ pc, ev_Ok cX13_wordAt 2 [] RX13 lw_g lw_n lw_q vwCl false (ev_CO mt lw_g lw_n lw_q vwCl d) pc (g_X13_wordAt pc) := (ok_t_n (ok_t_n (ok_t_n (ok_t_n (ok_t_l (ok_aload_n dX13_wordAt_0 rfl)) (ok_t_n (ok_t_l (ok_iconst dX13_wordAt_1 rfl)) (ok_t_l (ok_putfield dX13_wordAt_2 (ci := 13) (kf := 0) rfl inGX13 (by decide) tyX13_ok nmX13 rfl w_1559 rfl)))) (ok_t_n (ok_t_l (ok_aload_n dX13_wordAt_5 rfl)) (ok_t_n (ok_t_l (ok_getfield dX13_wordAt_6 (ci := 13) (kf := 17) rfl inGX13 (by decide) w_1590)) (ok_t_l (ok_if_eq dX13_wordAt_9 rfl))))) (ok_t_n (ok_t_n (ok_t_l (ok_iload_n dX13_wordAt_12 rfl)) (ok_t_n (ok_t_l (ok_iconst dX13_wordAt_13 rfl)) (ok_t_l (ok_aload_n dX13_wordAt_14 rfl)))) (ok_t_n (ok_t_l (ok_getfield dX13_wordAt_15 (ci := 13) (kf := 18) rfl inGX13 (by decide) w_1591)) (ok_t_n (ok_t_l (ok_getfieldN dX13_wordAt_18 (ci := 12) (kf := 19) rfl inGX12 (by decide) (nst_56))) (ok_t_l (ok_iconst dX13_wordAt_21 rfl)))))) (ok_t_n (ok_t_n (ok_t_n (ok_t_l (ok_isub dX13_wordAt_22)) (ok_t_n (ok_t_l (ok_inv (run_S (y := 230) (n := 3) dX13_wordAt_23 cz_230 gdG cc_230 ci_230 w_1684 cm_230 cd_230 cl_230))) (ok_t_l (ok_if_eq dX13_wordAt_26 rfl)))) (ok_t_n (ok_t_l (ok_aload_n dX13_wordAt_29 rfl)) (ok_t_n (ok_t_l (ok_getfield dX13_wordAt_30 (ci := 13) (kf := 18) rfl inGX13 (by decide) w_1591)) (ok_t_l (ok_getfieldN dX13_wordAt_33 (ci := 12) (kf := 23) rfl inGX12 (by decide) (nst_60)))))) (ok_t_n (ok_t_n (ok_t_l (ok_iload_n dX13_wordAt_36 rfl)) (ok_t_n (ok_t_l (ok_iaload dX13_wordAt_37)) (ok_t_l (ok_goto dX13_wordAt_38 rfl)))) (ok_t_n (ok_t_n (ok_t_l (ok_aload_n dX13_wordAt_41 rfl)) (ok_t_l (ok_iconst dX13_wordAt_42 rfl))) (ok_t_n (ok_t_l (ok_inv (run_V (y := 229) (n := 1) (ci := 13) dX13_wordAt_43 cz_229 gdG cc_229 ci_229 w_1672 cm_229 cs_229 cd_229 cl_229 rfl rfl))) (ok_t_l (ok_ireturn dX13_wordAt_46)))))))
theorem dX13_isLibrary_0 : decode cX13_isLibrary 0 = .ok (.iload_n 1, 1) := by decide +kernel
theorem dX13_isLibrary_1 : decode cX13_isLibrary 1 = .ok (.iconst 0, 1) := by decide +kernel
theorem dX13_isLibrary_2 : decode cX13_isLibrary 2 = .ok (.aload_n 0, 1) := by decide +kernel
theorem dX13_isLibrary_3 : decode cX13_isLibrary 3 = .ok (.getfield 188, 3) := by decide +kernel
theorem dX13_isLibrary_6 : decode cX13_isLibrary 6 = .ok (.iconst 1, 1) := by decide +kernel
theorem dX13_isLibrary_7 : decode cX13_isLibrary 7 = .ok (.isub, 1) := by decide +kernel
theorem dX13_isLibrary_8 : decode cX13_isLibrary 8 = .ok (.invokestatic 87, 3) := by decide +kernel
theorem dX13_isLibrary_11 : decode cX13_isLibrary 11 = .ok (.ireturn, 1) := by decide +kernel
def g_X13_isLibrary : Nat → EA := (t_n 6 (t_n 2 (t_n 1 (t_l 0 (a_iload 1 1)) (t_l 1 (a_push 1 (.int 0)))) (t_n 3 (t_l 2 (a_aload 1 0)) (t_l 3 (a_getf 13 20)))) (t_n 8 (t_n 7 (t_l 6 (a_push 1 (.int 1))) (t_l 7 (a_ii 1 (fun x y => x - y)))) (t_n 11 (t_l 8 (a_inv true 230 3 none)) (t_l 11 a_iret))))
set_option maxRecDepth 100000 in
theorem k_X13_isLibrary (d : Nat) : ∀ pc, ev_Ok cX13_isLibrary 2 [] RX13 lw_g lw_n lw_q vwCl false (ev_CO mt lw_g lw_n lw_q vwCl d) pc (g_X13_isLibrary pc) := (ok_t_n (ok_t_n (ok_t_n (ok_t_l (ok_iload_n dX13_isLibrary_0 rfl)) (ok_t_l (ok_iconst dX13_isLibrary_1 rfl))) (ok_t_n (ok_t_l (ok_aload_n dX13_isLibrary_2 rfl)) (ok_t_l (ok_getfield dX13_isLibrary_3 (ci := 13) (kf := 20) rfl inGX13 (by decide) w_1593)))) (ok_t_n (ok_t_n (ok_t_l (ok_iconst dX13_isLibrary_6 rfl)) (ok_t_l (ok_isub dX13_isLibrary_7))) (ok_t_n (ok_t_l (ok_inv (run_S (y := 230) (n := 3) dX13_isLibrary_8 cz_230 gdG cc_230 ci_230 w_1684 cm_230 cd_230 cl_230))) (ok_t_l (ok_ireturn dX13_isLibrary_11)))))
theorem dX13_isLoaded_0 : decode cX13_isLoaded 0 = .ok (.aload_n 0, 1) := by decide +kernel
theorem dX13_isLoaded_1 : decode cX13_isLoaded 1 = .ok (.getfield 66, 3) := by decide +kernel
theorem dX13_isLoaded_4 : decode cX13_isLoaded 4 = .ok (.iload_n 1, 1) := by decide +kernel
theorem dX13_isLoaded_5 : decode cX13_isLoaded 5 = .ok (.iaload, 1) := by decide +kernel
theorem dX13_isLoaded_6 : decode cX13_isLoaded 6 = .ok (.ifCond .le 7, 3) := by decide +kernel
theorem dX13_isLoaded_9 : decode cX13_isLoaded 9 = .ok (.iconst 1, 1) := by decide +kernel
theorem dX13_isLoaded_10 : decode cX13_isLoaded 10 = .ok (.goto 4, 3) := by decide +kernel
theorem dX13_isLoaded_13 : decode cX13_isLoaded 13 = .ok (.iconst 0, 1) := by decide +kernel
theorem dX13_isLoaded_14 : decode cX13_isLoaded 14 = .ok (.ireturn, 1) := by decide +kernel
def g_X13_isLoaded : Nat → EA := (t_n 6 (t_n 4 (t_n 1 (t_l 0 (a_aload 1 0)) (t_l 1 (a_getf 13 25))) (t_n 5 (t_l 4 (a_iload 1 1)) (t_l 5 (a_ild 0)))) (t_n 10 (t_n 9 (t_l 6 (a_if 13 (fun x => decide (x ≤ 0)))) (t_l 9 (a_push 1 (.int 1)))) (t_n 13 (t_l 10 (a_goto 14)) (t_n 14 (t_l 13 (a_push 1 (.int 0))) (t_l 14 a_iret)))))
set_option maxRecDepth 100000 in
theorem k_X13_isLoaded (d : Nat) : ∀ pc, ev_Ok cX13_isLoaded 2 [] RX13 lw_g lw_n lw_q vwCl false (ev_CO mt lw_g lw_n lw_q vwCl d) pc (g_X13_isLoaded pc) := (ok_t_n (ok_t_n (ok_t_n (ok_t_l (ok_aload_n dX13_isLoaded_0 rfl)) (ok_t_l (ok_getfield dX13_isLoaded_1 (ci := 13) (kf := 25) rfl inGX13 (by decide) w_1598))) (ok_t_n (ok_t_l (ok_iload_n dX13_isLoaded_4 rfl)) (ok_t_l (ok_iaload dX13_isLoaded_5)))) (ok_t_n (ok_t_n (ok_t_l (ok_if_le dX13_isLoaded_6 rfl)) (ok_t_l (ok_iconst dX13_isLoaded_9 rfl))) (ok_t_n (ok_t_l (ok_goto dX13_isLoaded_10 rfl)) (ok_t_n (ok_t_l (ok_iconst dX13_isLoaded_13 rfl)) (ok_t_l (ok_ireturn dX13_isLoaded_14))))))
theorem dX13_publish_0 : decode cX13_publish 0 = .ok (.aload_n 0, 1) := by decide +kernel
theorem dX13_publish_1 : decode cX13_publish 1 = .ok (.iconst 0, 1) := by decide +kernel
theorem dX13_publish_2 : decode cX13_publish 2 = .ok (.putfield 81, 3) := by decide +kernel
theorem dX13_publish_5 : decode cX13_publish 5 = .ok (.iload_n 1, 1) := by decide +kernel
theorem dX13_publish_6 : decode cX13_publish 6 = .ok (.iconst 0, 1) := by decide +kernel
theorem dX13_publish_7 : decode cX13_publish 7 = .ok (.bipush 63, 2) := by decide +kernel
theorem dX13_publish_9 : decode cX13_publish 9 = .ok (.invokestatic 87, 3) := by decide +kernel
theorem dX13_publish_12 : decode cX13_publish 12 = .ok (.ifCond .eq 23, 3) := by decide +kernel
theorem dX13_publish_15 : decode cX13_publish 15 = .ok (.aload_n 0, 1) := by decide +kernel
theorem dX13_publish_16 : decode cX13_publish 16 = .ok (.getfield 188, 3) := by decide +kernel
theorem dX13_publish_19 : decode cX13_publish 19 = .ok (.bipush 6, 2) := by decide +kernel
theorem dX13_publish_21 : decode cX13_publish 21 = .ok (.if_icmp .ge 20, 3) := by decide +kernel
theorem dX13_publish_24 : decode cX13_publish 24 = .ok (.iload_n 1, 1) := by decide +kernel
theorem dX13_publish_25 : decode cX13_publish 25 = .ok (.aload_n 0, 1) := by decide +kernel
theorem dX13_publish_26 : decode cX13_publish 26 = .ok (.getfield 188, 3) := by decide +kernel
theorem dX13_publish_29 : decode cX13_publish 29 = .ok (.invokestatic 125, 3) := by decide +kernel
theorem dX13_publish_32 : decode cX13_publish 32 = .ok (.ifCond .eq 9, 3) := by decide +kernel
theorem dX13_publish_35 : decode cX13_publish 35 = .ok (.aload_n 0, 1) := by decide +kernel
theorem dX13_publish_36 : decode cX13_publish 36 = .ok (.iconst 1, 1) := by decide +kernel
theorem dX13_publish_37 : decode cX13_publish 37 = .ok (.invokevirtual 94, 3) := by decide +kernel
theorem dX13_publish_40 : decode cX13_publish 40 = .ok (.ireturn, 1) := by decide +kernel
theorem dX13_publish_41 : decode cX13_publish 41 = .ok (.aload_n 0, 1) := by decide +kernel
theorem dX13_publish_42 : decode cX13_publish 42 = .ok (.getfield 188, 3) := by decide +kernel
theorem dX13_publish_45 : decode cX13_publish 45 = .ok (.bipush 6, 2) := by decide +kernel
theorem dX13_publish_47 : decode cX13_publish 47 = .ok (.if_icmp .eq 30, 3) := by decide +kernel
theorem dX13_publish_50 : decode cX13_publish 50 = .ok (.aload_n 0, 1) := by decide +kernel
theorem dX13_publish_51 : decode cX13_publish 51 = .ok (.getfield 135, 3) := by decide +kernel
theorem dX13_publish_54 : decode cX13_publish 54 = .ok (.ifCond .eq 23, 3) := by decide +kernel
theorem dX13_publish_57 : decode cX13_publish 57 = .ok (.aload_n 0, 1) := by decide +kernel
theorem dX13_publish_58 : decode cX13_publish 58 = .ok (.getfield 139, 3) := by decide +kernel
theorem dX13_publish_61 : decode cX13_publish 61 = .ok (.getfield 191, 3) := by decide +kernel
theorem dX13_publish_64 : decode cX13_publish 64 = .ok (.ifCond .eq 13, 3) := by decide +kernel
theorem dX13_publish_67 : decode cX13_publish 67 = .ok (.aload_n 0, 1) := by decide +kernel
theorem dX13_publish_68 : decode cX13_publish 68 = .ok (.getfield 139, 3) := by decide +kernel
theorem dX13_publish_71 : decode cX13_publish 71 = .ok (.getfield 158, 3) := by decide +kernel
theorem dX13_publish_74 : decode cX13_publish 74 = .ok (.ifCond .le 9, 3) := by decide +kernel
theorem dX13_publish_77 : decode cX13_publish 77 = .ok (.aload_n 0, 1) := by decide +kernel
theorem dX13_publish_78 : decode cX13_publish 78 = .ok (.iconst 2, 1) := by decide +kernel
theorem dX13_publish_79 : decode cX13_publish 79 = .ok (.invokevirtual 94, 3) := by decide +kernel
theorem dX13_publish_82 : decode cX13_publish 82 = .ok (.ireturn, 1) := by decide +kernel
theorem dX13_publish_83 : decode cX13_publish 83 = .ok (.aload_n 0, 1) := by decide +kernel
theorem dX13_publish_84 : decode cX13_publish 84 = .ok (.getfield 188, 3) := by decide +kernel
theorem dX13_publish_87 : decode cX13_publish 87 = .ok (.istore_n 2, 1) := by decide +kernel
theorem dX13_publish_88 : decode cX13_publish 88 = .ok (.aload_n 0, 1) := by decide +kernel
theorem dX13_publish_89 : decode cX13_publish 89 = .ok (.getfield 54, 3) := by decide +kernel
theorem dX13_publish_92 : decode cX13_publish 92 = .ok (.iload_n 2, 1) := by decide +kernel
theorem dX13_publish_93 : decode cX13_publish 93 = .ok (.aload_n 0, 1) := by decide +kernel
theorem dX13_publish_94 : decode cX13_publish 94 = .ok (.getfield 139, 3) := by decide +kernel
theorem dX13_publish_97 : decode cX13_publish 97 = .ok (.getfield 182, 3) := by decide +kernel
theorem dX13_publish_100 : decode cX13_publish 100 = .ok (.iastore, 1) := by decide +kernel
theorem dX13_publish_101 : decode cX13_publish 101 = .ok (.aload_n 0, 1) := by decide +kernel
theorem dX13_publish_102 : decode cX13_publish 102 = .ok (.getfield 57, 3) := by decide +kernel
theorem dX13_publish_105 : decode cX13_publish 105 = .ok (.iload_n 2, 1) := by decide +kernel
theorem dX13_publish_106 : decode cX13_publish 106 = .ok (.iload_n 1, 1) := by decide +kernel
theorem dX13_publish_107 : decode cX13_publish 107 = .ok (.iastore, 1) := by decide +kernel
theorem dX13_publish_108 : decode cX13_publish 108 = .ok (.aload_n 0, 1) := by decide +kernel
theorem dX13_publish_109 : decode cX13_publish 109 = .ok (.getfield 60, 3) := by decide +kernel
theorem dX13_publish_112 : decode cX13_publish 112 = .ok (.iload_n 2, 1) := by decide +kernel
theorem dX13_publish_113 : decode cX13_publish 113 = .ok (.aload_n 0, 1) := by decide +kernel
theorem dX13_publish_114 : decode cX13_publish 114 = .ok (.getfield 139, 3) := by decide +kernel
theorem dX13_publish_117 : decode cX13_publish 117 = .ok (.getfield 194, 3) := by decide +kernel
theorem dX13_publish_120 : decode cX13_publish 120 = .ok (.iastore, 1) := by decide +kernel
theorem dX13_publish_121 : decode cX13_publish 121 = .ok (.iconst 0, 1) := by decide +kernel
theorem dX13_publish_122 : decode cX13_publish 122 = .ok (.istore_n 3, 1) := by decide +kernel
theorem dX13_publish_123 : decode cX13_publish 123 = .ok (.iload_n 3, 1) := by decide +kernel
theorem dX13_publish_124 : decode cX13_publish 124 = .ok (.bipush 20, 2) := by decide +kernel
theorem dX13_publish_126 : decode cX13_publish 126 = .ok (.if_icmp .ge 102, 3) := by decide +kernel
theorem dX13_publish_129 : decode cX13_publish 129 = .ok (.aload_n 0, 1) := by decide +kernel
theorem dX13_publish_130 : decode cX13_publish 130 = .ok (.getfield 139, 3) := by decide +kernel
theorem dX13_publish_133 : decode cX13_publish 133 = .ok (.getfield 196, 3) := by decide +kernel
theorem dX13_publish_136 : decode cX13_publish 136 = .ok (.iload_n 3, 1) := by decide +kernel
theorem dX13_publish_137 : decode cX13_publish 137 = .ok (.iaload, 1) := by decide +kernel
theorem dX13_publish_138 : decode cX13_publish 138 = .ok (.istore 4, 2) := by decide +kernel
theorem dX13_publish_140 : decode cX13_publish 140 = .ok (.aload_n 0, 1) := by decide +kernel
theorem dX13_publish_141 : decode cX13_publish 141 = .ok (.getfield 139, 3) := by decide +kernel
theorem dX13_publish_144 : decode cX13_publish 144 = .ok (.getfield 199, 3) := by decide +kernel
theorem dX13_publish_147 : decode cX13_publish 147 = .ok (.iload_n 3, 1) := by decide +kernel
theorem dX13_publish_148 : decode cX13_publish 148 = .ok (.iaload, 1) := by decide +kernel
theorem dX13_publish_149 : decode cX13_publish 149 = .ok (.iconst (-1), 1) := by decide +kernel
theorem dX13_publish_150 : decode cX13_publish 150 = .ok (.if_icmp .eq 28, 3) := by decide +kernel
theorem dX13_publish_153 : decode cX13_publish 153 = .ok (.iload 4, 2) := by decide +kernel
theorem dX13_publish_155 : decode cX13_publish 155 = .ok (.iconst (-1), 1) := by decide +kernel
theorem dX13_publish_156 : decode cX13_publish 156 = .ok (.if_icmp .eq 18, 3) := by decide +kernel
theorem dX13_publish_159 : decode cX13_publish 159 = .ok (.aload_n 0, 1) := by decide +kernel
theorem dX13_publish_160 : decode cX13_publish 160 = .ok (.getfield 35, 3) := by decide +kernel
theorem dX13_publish_163 : decode cX13_publish 163 = .ok (.iload 4, 2) := by decide +kernel
theorem dX13_publish_165 : decode cX13_publish 165 = .ok (.bipush 20, 2) := by decide +kernel
theorem dX13_publish_167 : decode cX13_publish 167 = .ok (.imul, 1) := by decide +kernel
theorem dX13_publish_168 : decode cX13_publish 168 = .ok (.iload_n 3, 1) := by decide +kernel
theorem dX13_publish_169 : decode cX13_publish 169 = .ok (.iadd, 1) := by decide +kernel
theorem dX13_publish_170 : decode cX13_publish 170 = .ok (.baload, 1) := by decide +kernel
theorem dX13_publish_171 : decode cX13_publish 171 = .ok (.ifCond .ne 7, 3) := by decide +kernel
theorem dX13_publish_174 : decode cX13_publish 174 = .ok (.iconst 1, 1) := by decide +kernel
theorem dX13_publish_175 : decode cX13_publish 175 = .ok (.goto 4, 3) := by decide +kernel
theorem dX13_publish_178 : decode cX13_publish 178 = .ok (.iconst 0, 1) := by decide +kernel
theorem dX13_publish_179 : decode cX13_publish 179 = .ok (.istore 5, 2) := by decide +kernel
theorem dX13_publish_181 : decode cX13_publish 181 = .ok (.aload_n 0, 1) := by decide +kernel
theorem dX13_publish_182 : decode cX13_publish 182 = .ok (.getfield 69, 3) := by decide +kernel
theorem dX13_publish_185 : decode cX13_publish 185 = .ok (.iload_n 2, 1) := by decide +kernel
theorem dX13_publish_186 : decode cX13_publish 186 = .ok (.bipush 20, 2) := by decide +kernel
theorem dX13_publish_188 : decode cX13_publish 188 = .ok (.imul, 1) := by decide +kernel
theorem dX13_publish_189 : decode cX13_publish 189 = .ok (.iload_n 3, 1) := by decide +kernel
theorem dX13_publish_190 : decode cX13_publish 190 = .ok (.iadd, 1) := by decide +kernel
theorem dX13_publish_191 : decode cX13_publish 191 = .ok (.iload 5, 2) := by decide +kernel
theorem dX13_publish_193 : decode cX13_publish 193 = .ok (.ifCond .eq 15, 3) := by decide +kernel
theorem dX13_publish_196 : decode cX13_publish 196 = .ok (.aload_n 0, 1) := by decide +kernel
theorem dX13_publish_197 : decode cX13_publish 197 = .ok (.getfield 139, 3) := by decide +kernel
theorem dX13_publish_200 : decode cX13_publish 200 = .ok (.getfield 199, 3) := by decide +kernel
theorem dX13_publish_203 : decode cX13_publish 203 = .ok (.iload_n 3, 1) := by decide +kernel
theorem dX13_publish_204 : decode cX13_publish 204 = .ok (.iaload, 1) := by decide +kernel
theorem dX13_publish_205 : decode cX13_publish 205 = .ok (.goto 4, 3) := by decide +kernel
theorem dX13_publish_208 : decode cX13_publish 208 = .ok (.iconst (-1), 1) := by decide +kernel
theorem dX13_publish_209 : decode cX13_publish 209 = .ok (.iastore, 1) := by decide +kernel
theorem dX13_publish_210 : decode cX13_publish 210 = .ok (.aload_n 0, 1) := by decide +kernel
theorem dX13_publish_211 : decode cX13_publish 211 = .ok (.getfield 72, 3) := by decide +kernel
theorem dX13_publish_214 : decode cX13_publish 214 = .ok (.iload_n 2, 1) := by decide +kernel
theorem dX13_publish_215 : decode cX13_publish 215 = .ok (.bipush 20, 2) := by decide +kernel
theorem dX13_publish_217 : decode cX13_publish 217 = .ok (.imul, 1) := by decide +kernel
theorem dX13_publish_218 : decode cX13_publish 218 = .ok (.iload_n 3, 1) := by decide +kernel
theorem dX13_publish_219 : decode cX13_publish 219 = .ok (.iadd, 1) := by decide +kernel
theorem dX13_publish_220 : decode cX13_publish 220 = .ok (.iconst (-1), 1) := by decide +kernel
theorem dX13_publish_221 : decode cX13_publish 221 = .ok (.iastore, 1) := by decide +kernel
theorem dX13_publish_222 : decode cX13_publish 222 = .ok (.iinc 3 1, 3) := by decide +kernel
theorem dX13_publish_225 : decode cX13_publish 225 = .ok (.goto (-102), 3) := by decide +kernel
theorem dX13_publish_228 : decode cX13_publish 228 = .ok (.aload_n 0, 1) := by decide +kernel
theorem dX13_publish_229 : decode cX13_publish 229 = .ok (.dup, 1) := by decide +kernel
theorem dX13_publish_230 : decode cX13_publish 230 = .ok (.getfield 188, 3) := by decide +kernel
theorem dX13_publish_233 : decode cX13_publish 233 = .ok (.dup_x1, 1) := by decide +kernel
theorem dX13_publish_234 : decode cX13_publish 234 = .ok (.iconst 1, 1) := by decide +kernel
theorem dX13_publish_235 : decode cX13_publish 235 = .ok (.iadd, 1) := by decide +kernel
theorem dX13_publish_236 : decode cX13_publish 236 = .ok (.putfield 188, 3) := by decide +kernel
theorem dX13_publish_239 : decode cX13_publish 239 = .ok (.ireturn, 1) := by decide +kernel
def g_X13_publish : Nat → EA := (t_n 126 (t_n 68 (t_n 32 (t_n 15 (t_n 6 (t_n 2 (t_n 1 (t_l 0 (a_aload 1 0)) (t_l 1 (a_push 1 (.int 0)))) (t_n 5 (t_l 2 (a_putf 0 13 0)) (t_l 5 (a_iload 1 1)))) (t_n 9 (t_n 7 (t_l 6 (a_push 1 (.int 0))) (t_l 7 (a_push 2 (.int 63)))) (t_n 12 (t_l 9 (a_inv true 230 3 none)) (t_l 12 (a_if 35 (fun x => decide (x = 0))))))) (t_n 24 (t_n 19 (t_n 16 (t_l 15 (a_aload 1 0)) (t_l 16 (a_getf 13 20))) (t_n 21 (t_l 19 (a_push 2 (.int 6))) (t_l 21 (a_ic 41 (fun x y => decide (y ≤ x)))))) (t_n 26 (t_n 25 (t_l 24 (a_iload 1 1)) (t_l 25 (a_aload 1 0))) (t_n 29 (t_l 26 (a_getf 13 20)) (t_l 29 (a_inv true 231 2 none)))))) (t_n 47 (t_n 40 (t_n 36 (t_n 35 (t_l 32 (a_if 41 (fun x => decide (x = 0)))) (t_l 35 (a_aload 1 0))) (t_n 37 (t_l 36 (a_push 1 (.int 1))) (t_l 37 (a_inv true 229 2 (some 13))))) (t_n 42 (t_n 41 (t_l 40 a_iret) (t_l 41 (a_aload 1 0))) (t_n 45 (t_l 42 (a_getf 13 20)) (t_l 45 (a_push 2 (.int 6)))))) (t_n 57 (t_n 51 (t_n 50 (t_l 47 (a_ic 77 (fun x y => decide (x = y)))) (t_l 50 (a_aload 1 0))) (t_n 54 (t_l 51 (a_getf 13 17)) (t_l 54 (a_if 77 (fun x => decide (x = 0)))))) (t_n 61 (t_n 58 (t_l 57 (a_aload 1 0)) (t_l 58 (a_getf 13 18))) (t_n 64 (t_l 61 (a_getf 12 3)) (t_n 67 (t_l 64 (a_if 77 (fun x => decide (x = 0)))) (t_l 67 (a_aload 1 0)))))))) (t_n 100 (t_n 84 (t_n 78 (t_n 74 (t_n 71 (t_l 68 (a_getf 13 18)) (t_l 71 (a_getf 12 21))) (t_n 77 (t_l 74 (a_if 83 (fun x => decide (x ≤ 0)))) (t_l 77 (a_aload 1 0)))) (t_n 82 (t_n 79 (t_l 78 (a_push 1 (.int 2))) (t_l 79 (a_inv true 229 2 (some 13)))) (t_n 83 (t_l 82 a_iret) (t_l 83 (a_aload 1 0))))) (t_n 92 (t_n 88 (t_n 87 (t_l 84 (a_getf 13 20)) (t_l 87 (a_istore 6 1 2))) (t_n 89 (t_l 88 (a_aload 1 0)) (t_l 89 (a_getf 13 21)))) (t_n 94 (t_n 93 (t_l 92 (a_iload 1 2)) (t_l 93 (a_aload 1 0))) (t_n 97 (t_l 94 (a_getf 13 18)) (t_l 97 (a_getf 12 19)))))) (t_n 112 (t_n 106 (t_n 102 (t_n 101 (t_l 100 (a_ist 0)) (t_l 101 (a_aload 1 0))) (t_n 105 (t_l 102 (a_getf 13 22)) (t_l 105 (a_iload 1 2)))) (t_n 108 (t_n 107 (t_l 106 (a_iload 1 1)) (t_l 107 (a_ist 0))) (t_n 109 (t_l 108 (a_aload 1 0)) (t_l 109 (a_getf 13 23))))) (t_n 120 (t_n 114 (t_n 113 (t_l 112 (a_iload 1 2)) (t_l 113 (a_aload 1 0))) (t_n 117 (t_l 114 (a_getf 13 18)) (t_l 117 (a_getf 12 18)))) (t_n 122 (t_n 121 (t_l 120 (a_ist 0)) (t_l 121 (a_push 1 (.int 0)))) (t_n 123 (t_l 122 (a_istore 6 1 3)) (t_n 124 (t_l 123 (a_iload 1 3)) (t_l 124 (a_push 2 (.int 20)))))))))) (t_n 186 (t_n 156 (t_n 141 (t_n 136 (t_n 130 (t_n 129 (t_l 126 (a_ic 228 (fun x y => decide (y ≤ x)))) (t_l 129 (a_aload 1 0))) (t_n 133 (t_l 130 (a_getf 13 18)) (t_l 133 (a_getf 12 8)))) (t_n 138 (t_n 137 (t_l 136 (a_iload 1 3)) (t_l 137 (a_ild 0))) (t_n 140 (t_l 138 (a_istore 6 2 4)) (t_l 140 (a_aload 1 0))))) (t_n 149 (t_n 147 (t_n 144 (t_l 141 (a_getf 13 18)) (t_l 144 (a_getf 12 11))) (t_n 148 (t_l 147 (a_iload 1 3)) (t_l 148 (a_ild 0)))) (t_n 153 (t_n 150 (t_l 149 (a_push 1 (.int (-1)))) (t_l 150 (a_ic 178 (fun x y => decide (x = y))))) (t_n 155 (t_l 153 (a_iload 2 4)) (t_l 155 (a_push 1 (.int (-1)))))))) (t_n 170 (t_n 165 (t_n 160 (t_n 159 (t_l 156 (a_ic 174 (fun x y => decide (x = y)))) (t_l 159 (a_aload 1 0))) (t_n 163 (t_l 160 (a_getf 13 12)) (t_l 163 (a_iload 2 4)))) (t_n 168 (t_n 167 (t_l 165 (a_push 2 (.int 20))) (t_l 167 (a_ii 1 (fun x y => x * y)))) (t_n 169 (t_l 168 (a_iload 1 3)) (t_l 169 (a_ii 1 (fun x y => x + y)))))) (t_n 178 (t_n 174 (t_n 171 (t_l 170 (a_ild 1)) (t_l 171 (a_if 178 (fun x => !decide (x = 0))))) (t_n 175 (t_l 174 (a_push 1 (.int 1))) (t_l 175 (a_goto 179)))) (t_n 181 (t_n 179 (t_l 178 (a_push 1 (.int 0))) (t_l 179 (a_istore 6 2 5))) (t_n 182 (t_l 181 (a_aload 1 0)) (t_n 185 (t_l 182 (a_getf 13 26)) (t_l 185 (a_iload 1 2)))))))) (t_n 214 (t_n 200 (t_n 191 (t_n 189 (t_n 188 (t_l 186 (a_push 2 (.int 20))) (t_l 188 (a_ii 1 (fun x y => x * y)))) (t_n 190 (t_l 189 (a_iload 1 3)) (t_l 190 (a_ii 1 (fun x y => x + y))))) (t_n 196 (t_n 193 (t_l 191 (a_iload 2 5)) (t_l 193 (a_if 208 (fun x => decide (x = 0))))) (t_n 197 (t_l 196 (a_aload 1 0)) (t_l 197 (a_getf 13 18))))) (t_n 208 (t_n 204 (t_n 203 (t_l 200 (a_getf 12 11)) (t_l 203 (a_iload 1 3))) (t_n 205 (t_l 204 (a_ild 0)) (t_l 205 (a_goto 209)))) (t_n 210 (t_n 209 (t_l 208 (a_push 1 (.int (-1)))) (t_l 209 (a_ist 0))) (t_n 211 (t_l 210 (a_aload 1 0)) (t_l 211 (a_getf 13 27)))))) (t_n 225 (t_n 219 (t_n 217 (t_n 215 (t_l 214 (a_iload 1 2)) (t_l 215 (a_push 2 (.int 20)))) (t_n 218 (t_l 217 (a_ii 1 (fun x y => x * y))) (t_l 218 (a_iload 1 3)))) (t_n 221 (t_n 220 (t_l 219 (a_ii 1 (fun x y => x + y))) (t_l 220 (a_push 1 (.int (-1))))) (t_n 222 (t_l 221 (a_ist 0)) (t_l 222 (a_iinc 6 3 1))))) (t_n 233 (t_n 229 (t_n 228 (t_l 225 (a_goto 123)) (t_l 228 (a_aload 1 0))) (t_n 230 (t_l 229 a_dup) (t_l 230 (a_getf 13 20)))) (t_n 235 (t_n 234 (t_l 233 a_dupx1) (t_l 234 (a_push 1 (.int 1)))) (t_n 236 (t_l 235 (a_ii 1 (fun x y => x + y))) (t_n 239 (t_l 236 (a_putf 0 13 20)) (t_l 239 a_iret)))))))))
set_option maxRecDepth 100000 in
theorem k_X13_publish (d : Nat) : ∀ pc, ev_Ok cX13_publish 6 [] RX13 lw_g lw_n lw_q vwCl false (ev_CO mt lw_g lw_n lw_q vwCl d) pc (g_X13_publish pc) := (ok_t_n (ok_t_n (ok_t_n (ok_t_n (ok_t_n (ok_t_n (ok_t_n (ok_t_l (ok_aload_n dX13_publish_0 rfl)) (ok_t_l (ok_iconst dX13_publish_1 rfl))) (ok_t_n (ok_t_l (ok_putfield dX13_publish_2 (ci := 13) (kf := 0) rfl inGX13 (by decide) tyX13_ok nmX13 rfl w_1559 rfl)) (ok_t_l (ok_iload_n dX13_publish_5 rfl)))) (ok_t_n (ok_t_n (ok_t_l (ok_iconst dX13_publish_6 rfl)) (ok_t_l (ok_bipush dX13_publish_7 rfl))) (ok_t_n (ok_t_l (ok_inv (run_S (y := 230) (n := 3) dX13_publish_9 cz_230 gdG cc_230 ci_230 w_1684 cm_230 cd_230 cl_230))) (ok_t_l (ok_if_eq dX13_publish_12 rfl))))) (ok_t_n (ok_t_n (ok_t_n (ok_t_l (ok_aload_n dX13_publish_15 rfl)) (ok_t_l (ok_getfield dX13_publish_16 (ci := 13) (kf := 20) rfl inGX13 (by decide) w_1593))) (ok_t_n (ok_t_l (ok_bipush dX13_publish_19 rfl)) (ok_t_l (ok_icmp_ge dX13_publish_21 rfl)))) (ok_t_n (ok_t_n (ok_t_l (ok_iload_n dX13_publish_24 rfl)) (ok_t_l (ok_aload_n dX13_publish_25 rfl))) (ok_t_n (ok_t_l (ok_getfield dX13_publish_26 (ci := 13) (kf := 20) rfl inGX13 (by decide) w_1593)) (ok_t_l (ok_inv (run_S (y := 231) (n := 2) dX13_publish_29 cz_231 gdG cc_231 ci_231 w_1753 cm_231 cd_231 cl_231))))))) (ok_t_n (ok_t_n (ok_t_n (ok_t_n (ok_t_l (ok_if_eq dX13_publish_32 rfl)) (ok_t_l (ok_aload_n dX13_publish_35 rfl))) (ok_t_n (ok_t_l (ok_iconst dX13_publish_36 rfl)) (ok_t_l (ok_inv (run_V (y := 229) (n := 1) (ci := 13) dX13_publish_37 cz_229 gdG cc_229 ci_229 w_1672 cm_229 cs_229 cd_229 cl_229 rfl rfl))))) (ok_t_n (ok_t_n (ok_t_l (ok_ireturn dX13_publish_40)) (ok_t_l (ok_aload_n dX13_publish_41 rfl))) (ok_t_n (ok_t_l (ok_getfield dX13_publish_42 (ci := 13) (kf := 20) rfl inGX13 (by decide) w_1593)) (ok_t_l (ok_bipush dX13_publish_45 rfl))))) (ok_t_n (ok_t_n (ok_t_n (ok_t_l (ok_icmp_eq dX13_publish_47 rfl)) (ok_t_l (ok_aload_n dX13_publish_50 rfl))) (ok_t_n (ok_t_l (ok_getfield dX13_publish_51 (ci := 13) (kf := 17) rfl inGX13 (by decide) w_1590)) (ok_t_l (ok_if_eq dX13_publish_54 rfl)))) (ok_t_n (ok_t_n (ok_t_l (ok_aload_n dX13_publish_57 rfl)) (ok_t_l (ok_getfield dX13_publish_58 (ci := 13) (kf := 18) rfl inGX13 (by decide) w_1591))) (ok_t_n (ok_t_l (ok_getfieldN dX13_publish_61 (ci := 12) (kf := 3) rfl inGX12 (by decide) (nst_47))) (ok_t_n (ok_t_l (ok_if_eq dX13_publish_64 rfl)) (ok_t_l (ok_aload_n dX13_publish_67 rfl)))))))) (ok_t_n (ok_t_n (ok_t_n (ok_t_n (ok_t_n (ok_t_l (ok_getfield dX13_publish_68 (ci := 13) (kf := 18) rfl inGX13 (by decide) w_1591)) (ok_t_l (ok_getfieldN dX13_publish_71 (ci := 12) (kf := 21) rfl inGX12 (by decide) (nst_58)))) (ok_t_n (ok_t_l (ok_if_le dX13_publish_74 rfl)) (ok_t_l (ok_aload_n dX13_publish_77 rfl)))) (ok_t_n (ok_t_n (ok_t_l (ok_iconst dX13_publish_78 rfl)) (ok_t_l (ok_inv (run_V (y := 229) (n := 1) (ci := 13) dX13_publish_79 cz_229 gdG cc_229 ci_229 w_1672 cm_229 cs_229 cd_229 cl_229 rfl rfl)))) (ok_t_n (ok_t_l (ok_ireturn dX13_publish_82)) (ok_t_l (ok_aload_n dX13_publish_83 rfl))))) (ok_t_n (ok_t_n (ok_t_n (ok_t_l (ok_getfield dX13_publish_84 (ci := 13) (kf := 20) rfl inGX13 (by decide) w_1593)) (ok_t_l (ok_istore_n dX13_publish_87 rfl))) (ok_t_n (ok_t_l (ok_aload_n dX13_publish_88 rfl)) (ok_t_l (ok_getfield dX13_publish_89 (ci := 13) (kf := 21) rfl inGX13 (by decide) w_1594)))) (ok_t_n (ok_t_n (ok_t_l (ok_iload_n dX13_publish_92 rfl)) (ok_t_l (ok_aload_n dX13_publish_93 rfl))) (ok_t_n (ok_t_l (ok_getfield dX13_publish_94 (ci := 13) (kf := 18) rfl inGX13 (by decide) w_1591)) (ok_t_l (ok_getfieldN dX13_publish_97 (ci := 12) (kf := 19) rfl inGX12 (by decide) (nst_56))))))) (ok_t_n (ok_t_n (ok_t_n (ok_t_n (ok_t_l (ok_iastore dX13_publish_100)) (ok_t_l (ok_aload_n dX13_publish_101 rfl))) (ok_t_n (ok_t_l (ok_getfield dX13_publish_102 (ci := 13) (kf := 22) rfl inGX13 (by decide) w_1595)) (ok_t_l (ok_iload_n dX13_publish_105 rfl)))) (ok_t_n (ok_t_n (ok_t_l (ok_iload_n dX13_publish_106 rfl)) (ok_t_l (ok_iastore dX13_publish_107))) (ok_t_n (ok_t_l (ok_aload_n dX13_publish_108 rfl)) (ok_t_l (ok_getfield dX13_publish_109 (ci := 13) (kf := 23) rfl inGX13 (by decide) w_1596))))) (ok_t_n (ok_t_n (ok_t_n (ok_t_l (ok_iload_n dX13_publish_112 rfl)) (ok_t_l (ok_aload_n dX13_publish_113 rfl))) (ok_t_n (ok_t_l (ok_getfield dX13_publish_114 (ci := 13) (kf := 18) rfl inGX13 (by decide) w_1591)) (ok_t_l (ok_getfieldN dX13_publish_117 (ci := 12) (kf := 18) rfl inGX12 (by decide) (nst_55))))) (ok_t_n (ok_t_n (ok_t_l (ok_iastore dX13_publish_120)) (ok_t_l (ok_iconst dX13_publish_121 rfl))) (ok_t_n (ok_t_l (ok_istore_n dX13_publish_122 rfl)) (ok_t_n (ok_t_l (ok_iload_n dX13_publish_123 rfl)) (ok_t_l (ok_bipush dX13_publish_124 rfl))))))))) (ok_t_n (ok_t_n (ok_t_n (ok_t_n (ok_t_n (ok_t_n (ok_t_l (ok_icmp_ge dX13_publish_126 rfl)) (ok_t_l (ok_aload_n dX13_publish_129 rfl))) (ok_t_n (ok_t_l (ok_getfield dX13_publish_130 (ci := 13) (kf := 18) rfl inGX13 (by decide) w_1591)) (ok_t_l (ok_getfieldN dX13_publish_133 (ci := 12) (kf := 8) rfl inGX12 (by decide) (nst_50))))) (ok_t_n (ok_t_n (ok_t_l (ok_iload_n dX13_publish_136 rfl)) (ok_t_l (ok_iaload dX13_publish_137))) (ok_t_n (ok_t_l (ok_istore dX13_publish_138)) (ok_t_l (ok_aload_n dX13_publish_140 rfl))))) (ok_t_n (ok_t_n (ok_t_n (ok_t_l (ok_getfield dX13_publish_141 (ci := 13) (kf := 18) rfl inGX13 (by decide) w_1591)) (ok_t_l (ok_getfieldN dX13_publish_144 (ci := 12) (kf := 11) rfl inGX12 (by decide) (nst_51)))) (ok_t_n (ok_t_l (ok_iload_n dX13_publish_147 rfl)) (ok_t_l (ok_iaload dX13_publish_148)))) (ok_t_n (ok_t_n (ok_t_l (ok_iconst dX13_publish_149 rfl)) (ok_t_l (ok_icmp_eq dX13_publish_150 rfl))) (ok_t_n (ok_t_l (ok_iload dX13_publish_153)) (ok_t_l (ok_iconst dX13_publish_155 rfl)))))) (ok_t_n (ok_t_n (ok_t_n (ok_t_n (ok_t_l (ok_icmp_eq dX13_publish_156 rfl)) (ok_t_l (ok_aload_n dX13_publish_159 rfl))) (ok_t_n (ok_t_l (ok_getfield dX13_publish_160 (ci := 13) (kf := 12) rfl inGX13 (by decide) w_1582)) (ok_t_l (ok_iload dX13_publish_163)))) (ok_t_n (ok_t_n (ok_t_l (ok_bipush dX13_publish_165 rfl)) (ok_t_l (ok_imul dX13_publish_167))) (ok_t_n (ok_t_l (ok_iload_n dX13_publish_168 rfl)) (ok_t_l (ok_iadd dX13_publish_169))))) (ok_t_n (ok_t_n (ok_t_n (ok_t_l (ok_zaload dX13_publish_170)) (ok_t_l (ok_if_ne dX13_publish_171 rfl))) (ok_t_n (ok_t_l (ok_iconst dX13_publish_174 rfl)) (ok_t_l (ok_goto dX13_publish_175 rfl)))) (ok_t_n (ok_t_n (ok_t_l (ok_iconst dX13_publish_178 rfl)) (ok_t_l (ok_istore dX13_publish_179))) (ok_t_n (ok_t_l (ok_aload_n dX13_publish_181 rfl)) (ok_t_n (ok_t_l (ok_getfield dX13_publish_182 (ci := 13) (kf := 26) rfl inGX13 (by decide) w_1599)) (ok_t_l (ok_iload_n dX13_publish_185 rfl)))))))) (ok_t_n (ok_t_n (ok_t_n (ok_t_n (ok_t_n (ok_t_l (ok_bipush dX13_publish_186 rfl)) (ok_t_l (ok_imul dX13_publish_188))) (ok_t_n (ok_t_l (ok_iload_n dX13_publish_189 rfl)) (ok_t_l (ok_iadd dX13_publish_190)))) (ok_t_n (ok_t_n (ok_t_l (ok_iload dX13_publish_191)) (ok_t_l (ok_if_eq dX13_publish_193 rfl))) (ok_t_n (ok_t_l (ok_aload_n dX13_publish_196 rfl)) (ok_t_l (ok_getfield dX13_publish_197 (ci := 13) (kf := 18) rfl inGX13 (by decide) w_1591))))) (ok_t_n (ok_t_n (ok_t_n (ok_t_l (ok_getfieldN dX13_publish_200 (ci := 12) (kf := 11) rfl inGX12 (by decide) (nst_51))) (ok_t_l (ok_iload_n dX13_publish_203 rfl))) (ok_t_n (ok_t_l (ok_iaload dX13_publish_204)) (ok_t_l (ok_goto dX13_publish_205 rfl)))) (ok_t_n (ok_t_n (ok_t_l (ok_iconst dX13_publish_208 rfl)) (ok_t_l (ok_iastore dX13_publish_209))) (ok_t_n (ok_t_l (ok_aload_n dX13_publish_210 rfl)) (ok_t_l (ok_getfield dX13_publish_211 (ci := 13) (kf := 27) rfl inGX13 (by decide) w_1600)))))) (ok_t_n (ok_t_n (ok_t_n (ok_t_n (ok_t_l (ok_iload_n dX13_publish_214 rfl)) (ok_t_l (ok_bipush dX13_publish_215 rfl))) (ok_t_n (ok_t_l (ok_imul dX13_publish_217)) (ok_t_l (ok_iload_n dX13_publish_218 rfl)))) (ok_t_n (ok_t_n (ok_t_l (ok_iadd dX13_publish_219)) (ok_t_l (ok_iconst dX13_publish_220 rfl))) (ok_t_n (ok_t_l (ok_iastore dX13_publish_221)) (ok_t_l (ok_iinc dX13_publish_222 rfl))))) (ok_t_n (ok_t_n (ok_t_n (ok_t_l (ok_goto dX13_publish_225 rfl)) (ok_t_l (ok_aload_n dX13_publish_228 rfl))) (ok_t_n (ok_t_l (ok_dup dX13_publish_229)) (ok_t_l (ok_getfield dX13_publish_230 (ci := 13) (kf := 20) rfl inGX13 (by decide) w_1593)))) (ok_t_n (ok_t_n (ok_t_l (ok_dup_x1 dX13_publish_233)) (ok_t_l (ok_iconst dX13_publish_234 rfl))) (ok_t_n (ok_t_l (ok_iadd dX13_publish_235)) (ok_t_n (ok_t_l (ok_putfield dX13_publish_236 (ci := 13) (kf := 20) rfl inGX13 (by decide) tyX13_ok nmX13 rfl w_1593 rfl)) (ok_t_l (ok_ireturn dX13_publish_239))))))))))
theorem dX13_plus_0 : decode cX13_plus 0 = .ok (.aload_n 0, 1) := by decide +kernel
theorem dX13_plus_1 : decode cX13_plus 1 = .ok (.arraylength, 1) := by decide +kernel
theorem dX13_plus_2 : decode cX13_plus 2 = .ok (.iconst 1, 1) := by decide +kernel
theorem dX13_plus_3 : decode cX13_plus 3 = .ok (.iadd, 1) := by decide +kernel
theorem dX13_plus_4 : decode cX13_plus 4 = .ok (.newarray .int, 2) := by decide +kernel
theorem dX13_plus_6 : decode cX13_plus 6 = .ok (.astore_n 2, 1) := by decide +kernel
theorem dX13_plus_7 : decode cX13_plus 7 = .ok (.aload_n 0, 1) := by decide +kernel
theorem dX13_plus_8 : decode cX13_plus 8 = .ok (.iconst 0, 1) := by decide +kernel
theorem dX13_plus_9 : decode cX13_plus 9 = .ok (.aload_n 2, 1) := by decide +kernel
theorem dX13_plus_10 : decode cX13_plus 10 = .ok (.iconst 0, 1) := by decide +kernel
theorem dX13_plus_11 : decode cX13_plus 11 = .ok (.aload_n 0, 1) := by decide +kernel
theorem dX13_plus_12 : decode cX13_plus 12 = .ok (.arraylength, 1) := by decide +kernel
theorem dX13_plus_13 : decode cX13_plus 13 = .ok (.invokestatic 202, 3) := by decide +kernel
theorem dX13_plus_16 : decode cX13_plus 16 = .ok (.aload_n 2, 1) := by decide +kernel
theorem dX13_plus_17 : decode cX13_plus 17 = .ok (.aload_n 0, 1) := by decide +kernel
theorem dX13_plus_18 : decode cX13_plus 18 = .ok (.arraylength, 1) := by decide +kernel
theorem dX13_plus_19 : decode cX13_plus 19 = .ok (.iload_n 1, 1) := by decide +kernel
theorem dX13_plus_20 : decode cX13_plus 20 = .ok (.iastore, 1) := by decide +kernel
theorem dX13_plus_21 : decode cX13_plus 21 = .ok (.aload_n 2, 1) := by decide +kernel
theorem dX13_plus_22 : decode cX13_plus 22 = .ok (.areturn, 1) := by decide +kernel
def g_X13_plus : Nat → EA := (t_n 11 (t_n 6 (t_n 2 (t_n 1 (t_l 0 (a_aload 1 0)) (t_l 1 a_alen)) (t_n 3 (t_l 2 (a_push 1 (.int 1))) (t_n 4 (t_l 3 (a_ii 1 (fun x y => x + y))) (t_l 4 (a_newa 0))))) (t_n 8 (t_n 7 (t_l 6 (a_astore 3 1 2)) (t_l 7 (a_aload 1 0))) (t_n 9 (t_l 8 (a_push 1 (.int 0))) (t_n 10 (t_l 9 (a_aload 1 2)) (t_l 10 (a_push 1 (.int 0))))))) (t_n 18 (t_n 13 (t_n 12 (t_l 11 (a_aload 1 0)) (t_l 12 a_alen)) (t_n 16 (t_l 13 (a_copy 0)) (t_n 17 (t_l 16 (a_aload 1 2)) (t_l 17 (a_aload 1 0))))) (t_n 20 (t_n 19 (t_l 18 a_alen) (t_l 19 (a_iload 1 1))) (t_n 21 (t_l 20 (a_ist 0)) (t_n 22 (t_l 21 (a_aload 1 2)) (t_l 22 a_aret))))))
set_option maxRecDepth 100000 in
theorem k_X13_plus (d : Nat) : ∀ pc, ev_Ok cX13_plus 3 [] RX13 lw_g lw_n lw_q vwCl false (ev_CO mt lw_g lw_n lw_q vwCl d) pc (g_X13_plus pc) := (ok_t_n (ok_t_n (ok_t_n (ok_t_n (ok_t_l (ok_aload_n dX13_plus_0 rfl)) (ok_t_l (ok_arraylength dX13_plus_1))) (ok_t_n (ok_t_l (ok_iconst dX13_plus_2 rfl)) (ok_t_n (ok_t_l (ok_iadd dX13_plus_3)) (ok_t_l (ok_newint dX13_plus_4 w_152))))) (ok_t_n (ok_t_n (ok_t_l (ok_astore_n dX13_plus_6 rfl)) (ok_t_l (ok_aload_n dX13_plus_7 rfl))) (ok_t_n (ok_t_l (ok_iconst dX13_plus_8 rfl)) (ok_t_n (ok_t_l (ok_aload_n dX13_plus_9 rfl)) (ok_t_l (ok_iconst dX13_plus_10 rfl)))))) (ok_t_n (ok_t_n (ok_t_n (ok_t_l (ok_aload_n dX13_plus_11 rfl)) (ok_t_l (ok_arraylength dX13_plus_12))) (ok_t_n (ok_t_l (ok_copyi dX13_plus_13 w_1997 w_1806 w_1805 w_106 ev_CO.small2)) (ok_t_n (ok_t_l (ok_aload_n dX13_plus_16 rfl)) (ok_t_l (ok_aload_n dX13_plus_17 rfl))))) (ok_t_n (ok_t_n (ok_t_l (ok_arraylength dX13_plus_18)) (ok_t_l (ok_iload_n dX13_plus_19 rfl))) (ok_t_n (ok_t_l (ok_iastore dX13_plus_20)) (ok_t_n (ok_t_l (ok_aload_n dX13_plus_21 rfl)) (ok_t_l (ok_areturn dX13_plus_22)))))))
theorem dX13_placeIn_0 : decode cX13_placeIn 0 = .ok (.iconst 0, 1) := by decide +kernel
theorem dX13_placeIn_1 : decode cX13_placeIn 1 = .ok (.istore_n 2, 1) := by decide +kernel
theorem dX13_placeIn_2 : decode cX13_placeIn 2 = .ok (.iload_n 2, 1) := by decide +kernel
theorem dX13_placeIn_3 : decode cX13_placeIn 3 = .ok (.aload_n 0, 1) := by decide +kernel
theorem dX13_placeIn_4 : decode cX13_placeIn 4 = .ok (.arraylength, 1) := by decide +kernel
theorem dX13_placeIn_5 : decode cX13_placeIn 5 = .ok (.if_icmp .ge 18, 3) := by decide +kernel
theorem dX13_placeIn_8 : decode cX13_placeIn 8 = .ok (.aload_n 0, 1) := by decide +kernel
theorem dX13_placeIn_9 : decode cX13_placeIn 9 = .ok (.iload_n 2, 1) := by decide +kernel
theorem dX13_placeIn_10 : decode cX13_placeIn 10 = .ok (.iaload, 1) := by decide +kernel
theorem dX13_placeIn_11 : decode cX13_placeIn 11 = .ok (.iload_n 1, 1) := by decide +kernel
theorem dX13_placeIn_12 : decode cX13_placeIn 12 = .ok (.if_icmp .ne 5, 3) := by decide +kernel
theorem dX13_placeIn_15 : decode cX13_placeIn 15 = .ok (.iload_n 2, 1) := by decide +kernel
theorem dX13_placeIn_16 : decode cX13_placeIn 16 = .ok (.ireturn, 1) := by decide +kernel
theorem dX13_placeIn_17 : decode cX13_placeIn 17 = .ok (.iinc 2 1, 3) := by decide +kernel
theorem dX13_placeIn_20 : decode cX13_placeIn 20 = .ok (.goto (-18), 3) := by decide +kernel
theorem dX13_placeIn_23 : decode cX13_placeIn 23 = .ok (.iconst (-1), 1) := by decide +kernel
theorem dX13_placeIn_24 : decode cX13_placeIn 24 = .ok (.ireturn, 1) := by decide +kernel
def g_X13_placeIn : Nat → EA := (t_n 10 (t_n 4 (t_n 2 (t_n 1 (t_l 0 (a_push 1 (.int 0))) (t_l 1 (a_istore 3 1 2))) (t_n 3 (t_l 2 (a_iload 1 2)) (t_l 3 (a_aload 1 0)))) (t_n 8 (t_n 5 (t_l 4 a_alen) (t_l 5 (a_ic 23 (fun x y => decide (y ≤ x))))) (t_n 9 (t_l 8 (a_aload 1 0)) (t_l 9 (a_iload 1 2))))) (t_n 16 (t_n 12 (t_n 11 (t_l 10 (a_ild 0)) (t_l 11 (a_iload 1 1))) (t_n 15 (t_l 12 (a_ic 17 (fun x y => !decide (x = y)))) (t_l 15 (a_iload 1 2)))) (t_n 20 (t_n 17 (t_l 16 a_iret) (t_l 17 (a_iinc 3 2 1))) (t_n 23 (t_l 20 (a_goto 2)) (t_n 24 (t_l 23 (a_push 1 (.int (-1)))) (t_l 24 a_iret))))))
set_option maxRecDepth 100000 in
theorem k_X13_placeIn (d : Nat) : ∀ pc, ev_Ok cX13_placeIn 3 [] RX13 lw_g lw_n lw_q vwCl false (ev_CO mt lw_g lw_n lw_q vwCl d) pc (g_X13_placeIn pc) := (ok_t_n (ok_t_n (ok_t_n (ok_t_n (ok_t_l (ok_iconst dX13_placeIn_0 rfl)) (ok_t_l (ok_istore_n dX13_placeIn_1 rfl))) (ok_t_n (ok_t_l (ok_iload_n dX13_placeIn_2 rfl)) (ok_t_l (ok_aload_n dX13_placeIn_3 rfl)))) (ok_t_n (ok_t_n (ok_t_l (ok_arraylength dX13_placeIn_4)) (ok_t_l (ok_icmp_ge dX13_placeIn_5 rfl))) (ok_t_n (ok_t_l (ok_aload_n dX13_placeIn_8 rfl)) (ok_t_l (ok_iload_n dX13_placeIn_9 rfl))))) (ok_t_n (ok_t_n (ok_t_n (ok_t_l (ok_iaload dX13_placeIn_10)) (ok_t_l (ok_iload_n dX13_placeIn_11 rfl))) (ok_t_n (ok_t_l (ok_icmp_ne dX13_placeIn_12 rfl)) (ok_t_l (ok_iload_n dX13_placeIn_15 rfl)))) (ok_t_n (ok_t_n (ok_t_l (ok_ireturn dX13_placeIn_16)) (ok_t_l (ok_iinc dX13_placeIn_17 rfl))) (ok_t_n (ok_t_l (ok_goto dX13_placeIn_20 rfl)) (ok_t_n (ok_t_l (ok_iconst dX13_placeIn_23 rfl)) (ok_t_l (ok_ireturn dX13_placeIn_24)))))))
theorem dX13_without_0 : decode cX13_without 0 = .ok (.iconst 0, 1) := by decide +kernel
theorem dX13_without_1 : decode cX13_without 1 = .ok (.newarray .int, 2) := by decide +kernel
theorem dX13_without_3 : decode cX13_without 3 = .ok (.astore_n 2, 1) := by decide +kernel
theorem dX13_without_4 : decode cX13_without 4 = .ok (.aload_n 0, 1) := by decide +kernel
theorem dX13_without_5 : decode cX13_without 5 = .ok (.astore_n 3, 1) := by decide +kernel
theorem dX13_without_6 : decode cX13_without 6 = .ok (.aload_n 3, 1) := by decide +kernel
theorem dX13_without_7 : decode cX13_without 7 = .ok (.arraylength, 1) := by decide +kernel
theorem dX13_without_8 : decode cX13_without 8 = .ok (.istore 4, 2) := by decide +kernel
theorem dX13_without_10 : decode cX13_without 10 = .ok (.iconst 0, 1) := by decide +kernel
theorem dX13_without_11 : decode cX13_without 11 = .ok (.istore 5, 2) := by decide +kernel
theorem dX13_without_13 : decode cX13_without 13 = .ok (.iload 5, 2) := by decide +kernel
theorem dX13_without_15 : decode cX13_without 15 = .ok (.iload 4, 2) := by decide +kernel
theorem dX13_without_17 : decode cX13_without 17 = .ok (.if_icmp .ge 31, 3) := by decide +kernel
theorem dX13_without_20 : decode cX13_without 20 = .ok (.aload_n 3, 1) := by decide +kernel
theorem dX13_without_21 : decode cX13_without 21 = .ok (.iload 5, 2) := by decide +kernel
theorem dX13_without_23 : decode cX13_without 23 = .ok (.iaload, 1) := by decide +kernel
theorem dX13_without_24 : decode cX13_without 24 = .ok (.istore 6, 2) := by decide +kernel
theorem dX13_without_26 : decode cX13_without 26 = .ok (.iload_n 1, 1) := by decide +kernel
theorem dX13_without_27 : decode cX13_without 27 = .ok (.iload 6, 2) := by decide +kernel
theorem dX13_without_29 : decode cX13_without 29 = .ok (.invokestatic 125, 3) := by decide +kernel
theorem dX13_without_32 : decode cX13_without 32 = .ok (.ifCond .ne 10, 3) := by decide +kernel
theorem dX13_without_35 : decode cX13_without 35 = .ok (.aload_n 2, 1) := by decide +kernel
theorem dX13_without_36 : decode cX13_without 36 = .ok (.iload 6, 2) := by decide +kernel
theorem dX13_without_38 : decode cX13_without 38 = .ok (.invokestatic 208, 3) := by decide +kernel
theorem dX13_without_41 : decode cX13_without 41 = .ok (.astore_n 2, 1) := by decide +kernel
theorem dX13_without_42 : decode cX13_without 42 = .ok (.iinc 5 1, 3) := by decide +kernel
theorem dX13_without_45 : decode cX13_without 45 = .ok (.goto (-32), 3) := by decide +kernel
theorem dX13_without_48 : decode cX13_without 48 = .ok (.aload_n 2, 1) := by decide +kernel
theorem dX13_without_49 : decode cX13_without 49 = .ok (.areturn, 1) := by decide +kernel
def g_X13_without : Nat → EA := (t_n 21 (t_n 8 (t_n 4 (t_n 1 (t_l 0 (a_push 1 (.int 0))) (t_n 3 (t_l 1 (a_newa 0)) (t_l 3 (a_astore 7 1 2)))) (t_n 6 (t_n 5 (t_l 4 (a_aload 1 0)) (t_l 5 (a_astore 7 1 3))) (t_n 7 (t_l 6 (a_aload 1 3)) (t_l 7 a_alen)))) (t_n 13 (t_n 10 (t_l 8 (a_istore 7 2 4)) (t_n 11 (t_l 10 (a_push 1 (.int 0))) (t_l 11 (a_istore 7 2 5)))) (t_n 17 (t_n 15 (t_l 13 (a_iload 2 5)) (t_l 15 (a_iload 2 4))) (t_n 20 (t_l 17 (a_ic 48 (fun x y => decide (y ≤ x)))) (t_l 20 (a_aload 1 3)))))) (t_n 35 (t_n 26 (t_n 23 (t_l 21 (a_iload 2 5)) (t_n 24 (t_l 23 (a_ild 0)) (t_l 24 (a_istore 7 2 6)))) (t_n 29 (t_n 27 (t_l 26 (a_iload 1 1)) (t_l 27 (a_iload 2 6))) (t_n 32 (t_l 29 (a_inv true 231 2 none)) (t_l 32 (a_if 42 (fun x => !decide (x = 0))))))) (t_n 42 (t_n 38 (t_n 36 (t_l 35 (a_aload 1 2)) (t_l 36 (a_iload 2 6))) (t_n 41 (t_l 38 (a_inv true 263 2 none)) (t_l 41 (a_astore 7 1 2)))) (t_n 48 (t_n 45 (t_l 42 (a_iinc 7 5 1)) (t_l 45 (a_goto 13))) (t_n 49 (t_l 48 (a_aload 1 2)) (t_l 49 a_aret))))))
set_option maxRecDepth 100000 in
theorem k_X13_without (d : Nat) : ∀ pc, ev_Ok cX13_without 7 [] RX13 lw_g lw_n lw_q vwCl false (ev_CO mt lw_g lw_n lw_q vwCl d) pc (g_X13_without pc) := (ok_t_n (ok_t_n (ok_t_n (ok_t_n (ok_t_l (ok_iconst dX13_without_0 rfl)) (ok_t_n (ok_t_l (ok_newint dX13_without_1 w_152)) (ok_t_l (ok_astore_n dX13_without_3 rfl)))) (ok_t_n (ok_t_n (ok_t_l (ok_aload_n dX13_without_4 rfl)) (ok_t_l (ok_astore_n dX13_without_5 rfl))) (ok_t_n (ok_t_l (ok_aload_n dX13_without_6 rfl)) (ok_t_l (ok_arraylength dX13_without_7))))) (ok_t_n (ok_t_n (ok_t_l (ok_istore dX13_without_8)) (ok_t_n (ok_t_l (ok_iconst dX13_without_10 rfl)) (ok_t_l (ok_istore dX13_without_11)))) (ok_t_n (ok_t_n (ok_t_l (ok_iload dX13_without_13)) (ok_t_l (ok_iload dX13_without_15))) (ok_t_n (ok_t_l (ok_icmp_ge dX13_without_17 rfl)) (ok_t_l (ok_aload_n dX13_without_20 rfl)))))) (ok_t_n (ok_t_n (ok_t_n (ok_t_l (ok_iload dX13_without_21)) (ok_t_n (ok_t_l (ok_iaload dX13_without_23)) (ok_t_l (ok_istore dX13_without_24)))) (ok_t_n (ok_t_n (ok_t_l (ok_iload_n dX13_without_26 rfl)) (ok_t_l (ok_iload dX13_without_27))) (ok_t_n (ok_t_l (ok_inv (run_S (y := 231) (n := 2) dX13_without_29 cz_231 gdG cc_231 ci_231 w_1753 cm_231 cd_231 cl_231))) (ok_t_l (ok_if_ne dX13_without_32 rfl))))) (ok_t_n (ok_t_n (ok_t_n (ok_t_l (ok_aload_n dX13_without_35 rfl)) (ok_t_l (ok_iload dX13_without_36))) (ok_t_n (ok_t_l (ok_inv (run_S (y := 263) (n := 2) dX13_without_38 cz_263 gdG cc_263 ci_263 w_1994 cm_263 cd_263 cl_263))) (ok_t_l (ok_astore_n dX13_without_41 rfl)))) (ok_t_n (ok_t_n (ok_t_l (ok_iinc dX13_without_42 rfl)) (ok_t_l (ok_goto dX13_without_45 rfl))) (ok_t_n (ok_t_l (ok_aload_n dX13_without_48 rfl)) (ok_t_l (ok_areturn dX13_without_49)))))))
theorem dX13_rowOf_0 : decode cX13_rowOf 0 = .ok (.iconst 1, 1) := by decide +kernel
theorem dX13_rowOf_1 : decode cX13_rowOf 1 = .ok (.newarray .int, 2) := by decide +kernel
theorem dX13_rowOf_3 : decode cX13_rowOf 3 = .ok (.dup, 1) := by decide +kernel
theorem dX13_rowOf_4 : decode cX13_rowOf 4 = .ok (.iconst 0, 1) := by decide +kernel
theorem dX13_rowOf_5 : decode cX13_rowOf 5 = .ok (.iload_n 1, 1) := by decide +kernel
theorem dX13_rowOf_6 : decode cX13_rowOf 6 = .ok (.iastore, 1) := by decide +kernel
theorem dX13_rowOf_7 : decode cX13_rowOf 7 = .ok (.astore_n 2, 1) := by decide +kernel
theorem dX13_rowOf_8 : decode cX13_rowOf 8 = .ok (.iconst 0, 1) := by decide +kernel
theorem dX13_rowOf_9 : decode cX13_rowOf 9 = .ok (.istore_n 3, 1) := by decide +kernel
theorem dX13_rowOf_10 : decode cX13_rowOf 10 = .ok (.iload_n 3, 1) := by decide +kernel
theorem dX13_rowOf_11 : decode cX13_rowOf 11 = .ok (.aload_n 2, 1) := by decide +kernel
theorem dX13_rowOf_12 : decode cX13_rowOf 12 = .ok (.arraylength, 1) := by decide +kernel
theorem dX13_rowOf_13 : decode cX13_rowOf 13 = .ok (.if_icmp .ge 60, 3) := by decide +kernel
theorem dX13_rowOf_16 : decode cX13_rowOf 16 = .ok (.iconst 0, 1) := by decide +kernel
theorem dX13_rowOf_17 : decode cX13_rowOf 17 = .ok (.istore 4, 2) := by decide +kernel
theorem dX13_rowOf_19 : decode cX13_rowOf 19 = .ok (.iload 4, 2) := by decide +kernel
theorem dX13_rowOf_21 : decode cX13_rowOf 21 = .ok (.aload_n 0, 1) := by decide +kernel
theorem dX13_rowOf_22 : decode cX13_rowOf 22 = .ok (.getfield 188, 3) := by decide +kernel
theorem dX13_rowOf_25 : decode cX13_rowOf 25 = .ok (.if_icmp .ge 42, 3) := by decide +kernel
theorem dX13_rowOf_28 : decode cX13_rowOf 28 = .ok (.aload_n 0, 1) := by decide +kernel
theorem dX13_rowOf_29 : decode cX13_rowOf 29 = .ok (.getfield 57, 3) := by decide +kernel
theorem dX13_rowOf_32 : decode cX13_rowOf 32 = .ok (.aload_n 2, 1) := by decide +kernel
theorem dX13_rowOf_33 : decode cX13_rowOf 33 = .ok (.iload_n 3, 1) := by decide +kernel
theorem dX13_rowOf_34 : decode cX13_rowOf 34 = .ok (.iaload, 1) := by decide +kernel
theorem dX13_rowOf_35 : decode cX13_rowOf 35 = .ok (.iaload, 1) := by decide +kernel
theorem dX13_rowOf_36 : decode cX13_rowOf 36 = .ok (.iload 4, 2) := by decide +kernel
theorem dX13_rowOf_38 : decode cX13_rowOf 38 = .ok (.invokestatic 125, 3) := by decide +kernel
theorem dX13_rowOf_41 : decode cX13_rowOf 41 = .ok (.ifCond .eq 20, 3) := by decide +kernel
theorem dX13_rowOf_44 : decode cX13_rowOf 44 = .ok (.aload_n 2, 1) := by decide +kernel
theorem dX13_rowOf_45 : decode cX13_rowOf 45 = .ok (.iload 4, 2) := by decide +kernel
theorem dX13_rowOf_47 : decode cX13_rowOf 47 = .ok (.invokestatic 212, 3) := by decide +kernel
theorem dX13_rowOf_50 : decode cX13_rowOf 50 = .ok (.iconst (-1), 1) := by decide +kernel
theorem dX13_rowOf_51 : decode cX13_rowOf 51 = .ok (.if_icmp .ne 10, 3) := by decide +kernel
theorem dX13_rowOf_54 : decode cX13_rowOf 54 = .ok (.aload_n 2, 1) := by decide +kernel
theorem dX13_rowOf_55 : decode cX13_rowOf 55 = .ok (.iload 4, 2) := by decide +kernel
theorem dX13_rowOf_57 : decode cX13_rowOf 57 = .ok (.invokestatic 208, 3) := by decide +kernel
theorem dX13_rowOf_60 : decode cX13_rowOf 60 = .ok (.astore_n 2, 1) := by decide +kernel
theorem dX13_rowOf_61 : decode cX13_rowOf 61 = .ok (.iinc 4 1, 3) := by decide +kernel
theorem dX13_rowOf_64 : decode cX13_rowOf 64 = .ok (.goto (-45), 3) := by decide +kernel
theorem dX13_rowOf_67 : decode cX13_rowOf 67 = .ok (.iinc 3 1, 3) := by decide +kernel
theorem dX13_rowOf_70 : decode cX13_rowOf 70 = .ok (.goto (-60), 3) := by decide +kernel
theorem dX13_rowOf_73 : decode cX13_rowOf 73 = .ok (.aload_n 2, 1) := by decide +kernel
theorem dX13_rowOf_74 : decode cX13_rowOf 74 = .ok (.areturn, 1) := by decide +kernel
def g_X13_rowOf : Nat → EA := (t_n 32 (t_n 11 (t_n 6 (t_n 3 (t_n 1 (t_l 0 (a_push 1 (.int 1))) (t_l 1 (a_newa 0))) (t_n 4 (t_l 3 a_dup) (t_n 5 (t_l 4 (a_push 1 (.int 0))) (t_l 5 (a_iload 1 1))))) (t_n 8 (t_n 7 (t_l 6 (a_ist 0)) (t_l 7 (a_astore 5 1 2))) (t_n 9 (t_l 8 (a_push 1 (.int 0))) (t_n 10 (t_l 9 (a_istore 5 1 3)) (t_l 10 (a_iload 1 3)))))) (t_n 19 (t_n 13 (t_n 12 (t_l 11 (a_aload 1 2)) (t_l 12 a_alen)) (t_n 16 (t_l 13 (a_ic 73 (fun x y => decide (y ≤ x)))) (t_n 17 (t_l 16 (a_push 1 (.int 0))) (t_l 17 (a_istore 5 2 4))))) (t_n 25 (t_n 21 (t_l 19 (a_iload 2 4)) (t_n 22 (t_l 21 (a_aload 1 0)) (t_l 22 (a_getf 13 20)))) (t_n 28 (t_l 25 (a_ic 67 (fun x y => decide (y ≤ x)))) (t_n 29 (t_l 28 (a_aload 1 0)) (t_l 29 (a_getf 13 22))))))) (t_n 51 (t_n 38 (t_n 34 (t_n 33 (t_l 32 (a_aload 1 2)) (t_l 33 (a_iload 1 3))) (t_n 35 (t_l 34 (a_ild 0)) (t_n 36 (t_l 35 (a_ild 0)) (t_l 36 (a_iload 2 4))))) (t_n 45 (t_n 41 (t_l 38 (a_inv true 231 2 none)) (t_n 44 (t_l 41 (a_if 61 (fun x => decide (x = 0)))) (t_l 44 (a_aload 1 2)))) (t_n 47 (t_l 45 (a_iload 2 4)) (t_n 50 (t_l 47 (a_inv true 264 2 none)) (t_l 50 (a_push 1 (.int (-1)))))))) (t_n 61 (t_n 55 (t_n 54 (t_l 51 (a_ic 61 (fun x y => !decide (x = y)))) (t_l 54 (a_aload 1 2))) (t_n 57 (t_l 55 (a_iload 2 4)) (t_n 60 (t_l 57 (a_inv true 263 2 none)) (t_l 60 (a_astore 5 1 2))))) (t_n 70 (t_n 64 (t_l 61 (a_iinc 5 4 1)) (t_n 67 (t_l 64 (a_goto 19)) (t_l 67 (a_iinc 5 3 1)))) (t_n 73 (t_l 70 (a_goto 10)) (t_n 74 (t_l 73 (a_aload 1 2)) (t_l 74 a_aret)))))))
set_option maxRecDepth 100000 in
theorem k_X13_rowOf (d : Nat) : ∀ pc, ev_Ok cX13_rowOf 5 [] RX13 lw_g lw_n lw_q vwCl false (ev_CO mt lw_g lw_n lw_q vwCl d) pc (g_X13_rowOf pc) := (ok_t_n (ok_t_n (ok_t_n (ok_t_n (ok_t_n (ok_t_l (ok_iconst dX13_rowOf_0 rfl)) (ok_t_l (ok_newint dX13_rowOf_1 w_152))) (ok_t_n (ok_t_l (ok_dup dX13_rowOf_3)) (ok_t_n (ok_t_l (ok_iconst dX13_rowOf_4 rfl)) (ok_t_l (ok_iload_n dX13_rowOf_5 rfl))))) (ok_t_n (ok_t_n (ok_t_l (ok_iastore dX13_rowOf_6)) (ok_t_l (ok_astore_n dX13_rowOf_7 rfl))) (ok_t_n (ok_t_l (ok_iconst dX13_rowOf_8 rfl)) (ok_t_n (ok_t_l (ok_istore_n dX13_rowOf_9 rfl)) (ok_t_l (ok_iload_n dX13_rowOf_10 rfl)))))) (ok_t_n (ok_t_n (ok_t_n (ok_t_l (ok_aload_n dX13_rowOf_11 rfl)) (ok_t_l (ok_arraylength dX13_rowOf_12))) (ok_t_n (ok_t_l (ok_icmp_ge dX13_rowOf_13 rfl)) (ok_t_n (ok_t_l (ok_iconst dX13_rowOf_16 rfl)) (ok_t_l (ok_istore dX13_rowOf_17))))) (ok_t_n (ok_t_n (ok_t_l (ok_iload dX13_rowOf_19)) (ok_t_n (ok_t_l (ok_aload_n dX13_rowOf_21 rfl)) (ok_t_l (ok_getfield dX13_rowOf_22 (ci := 13) (kf := 20) rfl inGX13 (by decide) w_1593)))) (ok_t_n (ok_t_l (ok_icmp_ge dX13_rowOf_25 rfl)) (ok_t_n (ok_t_l (ok_aload_n dX13_rowOf_28 rfl)) (ok_t_l (ok_getfield dX13_rowOf_29 (ci := 13) (kf := 22) rfl inGX13 (by decide) w_1595))))))) (ok_t_n (ok_t_n (ok_t_n (ok_t_n (ok_t_l (ok_aload_n dX13_rowOf_32 rfl)) (ok_t_l (ok_iload_n dX13_rowOf_33 rfl))) (ok_t_n (ok_t_l (ok_iaload dX13_rowOf_34)) (ok_t_n (ok_t_l (ok_iaload dX13_rowOf_35)) (ok_t_l (ok_iload dX13_rowOf_36))))) (ok_t_n (ok_t_n (ok_t_l (ok_inv (run_S (y := 231) (n := 2) dX13_rowOf_38 cz_231 gdG cc_231 ci_231 w_1753 cm_231 cd_231 cl_231))) (ok_t_n (ok_t_l (ok_if_eq dX13_rowOf_41 rfl)) (ok_t_l (ok_aload_n dX13_rowOf_44 rfl)))) (ok_t_n (ok_t_l (ok_iload dX13_rowOf_45)) (ok_t_n (ok_t_l (ok_inv (run_S (y := 264) (n := 2) dX13_rowOf_47 cz_264 gdG cc_264 ci_264 w_1991 cm_264 cd_264 cl_264))) (ok_t_l (ok_iconst dX13_rowOf_50 rfl)))))) (ok_t_n (ok_t_n (ok_t_n (ok_t_l (ok_icmp_ne dX13_rowOf_51 rfl)) (ok_t_l (ok_aload_n dX13_rowOf_54 rfl))) (ok_t_n (ok_t_l (ok_iload dX13_rowOf_55)) (ok_t_n (ok_t_l (ok_inv (run_S (y := 263) (n := 2) dX13_rowOf_57 cz_263 gdG cc_263 ci_263 w_1994 cm_263 cd_263 cl_263))) (ok_t_l (ok_astore_n dX13_rowOf_60 rfl))))) (ok_t_n (ok_t_n (ok_t_l (ok_iinc dX13_rowOf_61 rfl)) (ok_t_n (ok_t_l (ok_goto dX13_rowOf_64 rfl)) (ok_t_l (ok_iinc dX13_rowOf_67 rfl)))) (ok_t_n (ok_t_l (ok_goto dX13_rowOf_70 rfl)) (ok_t_n (ok_t_l (ok_aload_n dX13_rowOf_73 rfl)) (ok_t_l (ok_areturn dX13_rowOf_74))))))))
theorem dX13_baseNow_0 : decode cX13_baseNow 0 = .ok (.bipush 64, 2) := by decide +kernel
theorem dX13_baseNow_2 : decode cX13_baseNow 2 = .ok (.istore_n 1, 1) := by decide +kernel
theorem dX13_baseNow_3 : decode cX13_baseNow 3 = .ok (.iconst 0, 1) := by decide +kernel
theorem dX13_baseNow_4 : decode cX13_baseNow 4 = .ok (.istore_n 2, 1) := by decide +kernel
theorem dX13_baseNow_5 : decode cX13_baseNow 5 = .ok (.iload_n 2, 1) := by decide +kernel
theorem dX13_baseNow_6 : decode cX13_baseNow 6 = .ok (.aload_n 0, 1) := by decide +kernel
theorem dX13_baseNow_7 : decode cX13_baseNow 7 = .ok (.getfield 188, 3) := by decide +kernel
theorem dX13_baseNow_10 : decode cX13_baseNow 10 = .ok (.if_icmp .ge 40, 3) := by decide +kernel
theorem dX13_baseNow_13 : decode cX13_baseNow 13 = .ok (.aload_n 0, 1) := by decide +kernel
theorem dX13_baseNow_14 : decode cX13_baseNow 14 = .ok (.iload_n 2, 1) := by decide +kernel
theorem dX13_baseNow_15 : decode cX13_baseNow 15 = .ok (.invokevirtual 216, 3) := by decide +kernel
theorem dX13_baseNow_18 : decode cX13_baseNow 18 = .ok (.ifCond .eq 26, 3) := by decide +kernel
theorem dX13_baseNow_21 : decode cX13_baseNow 21 = .ok (.iload_n 1, 1) := by decide +kernel
theorem dX13_baseNow_22 : decode cX13_baseNow 22 = .ok (.aload_n 0, 1) := by decide +kernel
theorem dX13_baseNow_23 : decode cX13_baseNow 23 = .ok (.getfield 66, 3) := by decide +kernel
theorem dX13_baseNow_26 : decode cX13_baseNow 26 = .ok (.iload_n 2, 1) := by decide +kernel
theorem dX13_baseNow_27 : decode cX13_baseNow 27 = .ok (.iaload, 1) := by decide +kernel
theorem dX13_baseNow_28 : decode cX13_baseNow 28 = .ok (.aload_n 0, 1) := by decide +kernel
theorem dX13_baseNow_29 : decode cX13_baseNow 29 = .ok (.getfield 54, 3) := by decide +kernel
theorem dX13_baseNow_32 : decode cX13_baseNow 32 = .ok (.iload_n 2, 1) := by decide +kernel
theorem dX13_baseNow_33 : decode cX13_baseNow 33 = .ok (.iaload, 1) := by decide +kernel
theorem dX13_baseNow_34 : decode cX13_baseNow 34 = .ok (.iadd, 1) := by decide +kernel
theorem dX13_baseNow_35 : decode cX13_baseNow 35 = .ok (.if_icmp .ge 9, 3) := by decide +kernel
theorem dX13_baseNow_38 : decode cX13_baseNow 38 = .ok (.iinc 1 64, 3) := by decide +kernel
theorem dX13_baseNow_41 : decode cX13_baseNow 41 = .ok (.goto (-28), 3) := by decide +kernel
theorem dX13_baseNow_44 : decode cX13_baseNow 44 = .ok (.iinc 2 1, 3) := by decide +kernel
theorem dX13_baseNow_47 : decode cX13_baseNow 47 = .ok (.goto (-42), 3) := by decide +kernel
theorem dX13_baseNow_50 : decode cX13_baseNow 50 = .ok (.iload_n 1, 1) := by decide +kernel
theorem dX13_baseNow_51 : decode cX13_baseNow 51 = .ok (.ireturn, 1) := by decide +kernel
def g_X13_baseNow : Nat → EA := (t_n 23 (t_n 10 (t_n 4 (t_n 2 (t_l 0 (a_push 2 (.int 64))) (t_n 3 (t_l 2 (a_istore 3 1 1)) (t_l 3 (a_push 1 (.int 0))))) (t_n 6 (t_n 5 (t_l 4 (a_istore 3 1 2)) (t_l 5 (a_iload 1 2))) (t_n 7 (t_l 6 (a_aload 1 0)) (t_l 7 (a_getf 13 20))))) (t_n 15 (t_n 13 (t_l 10 (a_ic 50 (fun x y => decide (y ≤ x)))) (t_n 14 (t_l 13 (a_aload 1 0)) (t_l 14 (a_iload 1 2)))) (t_n 21 (t_n 18 (t_l 15 (a_inv true 261 2 (some 13))) (t_l 18 (a_if 44 (fun x => decide (x = 0))))) (t_n 22 (t_l 21 (a_iload 1 1)) (t_l 22 (a_aload 1 0)))))) (t_n 34 (t_n 28 (t_n 26 (t_l 23 (a_getf 13 25)) (t_n 27 (t_l 26 (a_iload 1 2)) (t_l 27 (a_ild 0)))) (t_n 32 (t_n 29 (t_l 28 (a_aload 1 0)) (t_l 29 (a_getf 13 21))) (t_n 33 (t_l 32 (a_iload 1 2)) (t_l 33 (a_ild 0))))) (t_n 44 (t_n 38 (t_n 35 (t_l 34 (a_ii 1 (fun x y => x + y))) (t_l 35 (a_ic 44 (fun x y => decide (y ≤ x))))) (t_n 41 (t_l 38 (a_iinc 3 1 64)) (t_l 41 (a_goto 13)))) (t_n 50 (t_n 47 (t_l 44 (a_iinc 3 2 1)) (t_l 47 (a_goto 5))) (t_n 51 (t_l 50 (a_iload 1 1)) (t_l 51 a_iret))))))
set_option maxRecDepth 100000 in
theorem k_X13_baseNow (d : Nat) : ∀ pc, ev_Ok cX13_baseNow 3 [] RX13 lw_g lw_n lw_q vwCl false (ev_CO mt lw_g lw_n lw_q vwCl d) pc (g_X13_baseNow pc) := (ok_t_n (ok_t_n (ok_t_n (ok_t_n (ok_t_l (ok_bipush dX13_baseNow_0 rfl)) (ok_t_n (ok_t_l (ok_istore_n dX13_baseNow_2 rfl)) (ok_t_l (ok_iconst dX13_baseNow_3 rfl)))) (ok_t_n (ok_t_n (ok_t_l (ok_istore_n dX13_baseNow_4 rfl)) (ok_t_l (ok_iload_n dX13_baseNow_5 rfl))) (ok_t_n (ok_t_l (ok_aload_n dX13_baseNow_6 rfl)) (ok_t_l (ok_getfield dX13_baseNow_7 (ci := 13) (kf := 20) rfl inGX13 (by decide) w_1593))))) (ok_t_n (ok_t_n (ok_t_l (ok_icmp_ge dX13_baseNow_10 rfl)) (ok_t_n (ok_t_l (ok_aload_n dX13_baseNow_13 rfl)) (ok_t_l (ok_iload_n dX13_baseNow_14 rfl)))) (ok_t_n (ok_t_n (ok_t_l (ok_inv (run_V (y := 261) (n := 1) (ci := 13) dX13_baseNow_15 cz_261 gdG cc_261 ci_261 w_1998 cm_261 cs_261 cd_261 cl_261 rfl rfl))) (ok_t_l (ok_if_eq dX13_baseNow_18 rfl))) (ok_t_n (ok_t_l (ok_iload_n dX13_baseNow_21 rfl)) (ok_t_l (ok_aload_n dX13_baseNow_22 rfl)))))) (ok_t_n (ok_t_n (ok_t_n (ok_t_l (ok_getfield dX13_baseNow_23 (ci := 13) (kf := 25) rfl inGX13 (by decide) w_1598)) (ok_t_n (ok_t_l (ok_iload_n dX13_baseNow_26 rfl)) (ok_t_l (ok_iaload dX13_baseNow_27)))) (ok_t_n (ok_t_n (ok_t_l (ok_aload_n dX13_baseNow_28 rfl)) (ok_t_l (ok_getfield dX13_baseNow_29 (ci := 13) (kf := 21) rfl inGX13 (by decide) w_1594))) (ok_t_n (ok_t_l (ok_iload_n dX13_baseNow_32 rfl)) (ok_t_l (ok_iaload dX13_baseNow_33))))) (ok_t_n (ok_t_n (ok_t_n (ok_t_l (ok_iadd dX13_baseNow_34)) (ok_t_l (ok_icmp_ge dX13_baseNow_35 rfl))) (ok_t_n (ok_t_l (ok_iinc dX13_baseNow_38 rfl)) (ok_t_l (ok_goto dX13_baseNow_41 rfl)))) (ok_t_n (ok_t_n (ok_t_l (ok_iinc dX13_baseNow_44 rfl)) (ok_t_l (ok_goto dX13_baseNow_47 rfl))) (ok_t_n (ok_t_l (ok_iload_n dX13_baseNow_50 rfl)) (ok_t_l (ok_ireturn dX13_baseNow_51)))))))
theorem dX13_go_0 : decode cX13_go 0 = .ok (.iload_n 2, 1) := by decide +kernel
theorem dX13_go_1 : decode cX13_go 1 = .ok (.iconst 1, 1) := by decide +kernel
theorem dX13_go_2 : decode cX13_go 2 = .ok (.iload_n 1, 1) := by decide +kernel
theorem dX13_go_3 : decode cX13_go 3 = .ok (.ishl, 1) := by decide +kernel
theorem dX13_go_4 : decode cX13_go 4 = .ok (.ior, 1) := by decide +kernel
theorem dX13_go_5 : decode cX13_go 5 = .ok (.istore 4, 2) := by decide +kernel
theorem dX13_go_7 : decode cX13_go 7 = .ok (.iconst 0, 1) := by decide +kernel
theorem dX13_go_8 : decode cX13_go 8 = .ok (.istore 5, 2) := by decide +kernel
theorem dX13_go_10 : decode cX13_go 10 = .ok (.iload 5, 2) := by decide +kernel
theorem dX13_go_12 : decode cX13_go 12 = .ok (.aload_n 0, 1) := by decide +kernel
theorem dX13_go_13 : decode cX13_go 13 = .ok (.getfield 188, 3) := by decide +kernel
theorem dX13_go_16 : decode cX13_go 16 = .ok (.if_icmp .ge 44, 3) := by decide +kernel
theorem dX13_go_19 : decode cX13_go 19 = .ok (.aload_n 0, 1) := by decide +kernel
theorem dX13_go_20 : decode cX13_go 20 = .ok (.getfield 57, 3) := by decide +kernel
theorem dX13_go_23 : decode cX13_go 23 = .ok (.iload_n 1, 1) := by decide +kernel
theorem dX13_go_24 : decode cX13_go 24 = .ok (.iaload, 1) := by decide +kernel
theorem dX13_go_25 : decode cX13_go 25 = .ok (.iload 5, 2) := by decide +kernel
theorem dX13_go_27 : decode cX13_go 27 = .ok (.invokestatic 125, 3) := by decide +kernel
theorem dX13_go_30 : decode cX13_go 30 = .ok (.ifCond .eq 24, 3) := by decide +kernel
theorem dX13_go_33 : decode cX13_go 33 = .ok (.iload 4, 2) := by decide +kernel
theorem dX13_go_35 : decode cX13_go 35 = .ok (.iload 5, 2) := by decide +kernel
theorem dX13_go_37 : decode cX13_go 37 = .ok (.invokestatic 125, 3) := by decide +kernel
theorem dX13_go_40 : decode cX13_go 40 = .ok (.ifCond .ne 14, 3) := by decide +kernel
theorem dX13_go_43 : decode cX13_go 43 = .ok (.aload_n 0, 1) := by decide +kernel
theorem dX13_go_44 : decode cX13_go 44 = .ok (.iload 5, 2) := by decide +kernel
theorem dX13_go_46 : decode cX13_go 46 = .ok (.iload 4, 2) := by decide +kernel
theorem dX13_go_48 : decode cX13_go 48 = .ok (.iload_n 3, 1) := by decide +kernel
theorem dX13_go_49 : decode cX13_go 49 = .ok (.invokevirtual 219, 3) := by decide +kernel
theorem dX13_go_52 : decode cX13_go 52 = .ok (.istore 4, 2) := by decide +kernel
theorem dX13_go_54 : decode cX13_go 54 = .ok (.iinc 5 1, 3) := by decide +kernel
theorem dX13_go_57 : decode cX13_go 57 = .ok (.goto (-47), 3) := by decide +kernel
theorem dX13_go_60 : decode cX13_go 60 = .ok (.iload_n 3, 1) := by decide +kernel
theorem dX13_go_61 : decode cX13_go 61 = .ok (.iload_n 1, 1) := by decide +kernel
theorem dX13_go_62 : decode cX13_go 62 = .ok (.invokestatic 125, 3) := by decide +kernel
theorem dX13_go_65 : decode cX13_go 65 = .ok (.ifCond .eq 15, 3) := by decide +kernel
theorem dX13_go_68 : decode cX13_go 68 = .ok (.aload_n 0, 1) := by decide +kernel
theorem dX13_go_69 : decode cX13_go 69 = .ok (.aload_n 0, 1) := by decide +kernel
theorem dX13_go_70 : decode cX13_go 70 = .ok (.getfield 78, 3) := by decide +kernel
theorem dX13_go_73 : decode cX13_go 73 = .ok (.iload_n 1, 1) := by decide +kernel
theorem dX13_go_74 : decode cX13_go 74 = .ok (.invokestatic 208, 3) := by decide +kernel
theorem dX13_go_77 : decode cX13_go 77 = .ok (.putfield 78, 3) := by decide +kernel
theorem dX13_go_80 : decode cX13_go 80 = .ok (.iload 4, 2) := by decide +kernel
theorem dX13_go_82 : decode cX13_go 82 = .ok (.ireturn, 1) := by decide +kernel
def g_X13_go : Nat → EA := (t_n 37 (t_n 13 (t_n 5 (t_n 2 (t_n 1 (t_l 0 (a_iload 1 2)) (t_l 1 (a_push 1 (.int 1)))) (t_n 3 (t_l 2 (a_iload 1 1)) (t_n 4 (t_l 3 (a_ii 1 (fun x y => x <<< (y &&& 31)))) (t_l 4 (a_ii 1 (fun x y => x ||| y)))))) (t_n 8 (t_n 7 (t_l 5 (a_istore 6 2 4)) (t_l 7 (a_push 1 (.int 0)))) (t_n 10 (t_l 8 (a_istore 6 2 5)) (t_n 12 (t_l 10 (a_iload 2 5)) (t_l 12 (a_aload 1 0)))))) (t_n 24 (t_n 19 (t_n 16 (t_l 13 (a_getf 13 20)) (t_l 16 (a_ic 60 (fun x y => decide (y ≤ x))))) (t_n 20 (t_l 19 (a_aload 1 0)) (t_n 23 (t_l 20 (a_getf 13 22)) (t_l 23 (a_iload 1 1))))) (t_n 30 (t_n 25 (t_l 24 (a_ild 0)) (t_n 27 (t_l 25 (a_iload 2 5)) (t_l 27 (a_inv true 231 2 none)))) (t_n 33 (t_l 30 (a_if 54 (fun x => decide (x = 0)))) (t_n 35 (t_l 33 (a_iload 2 4)) (t_l 35 (a_iload 2 5))))))) (t_n 61 (t_n 48 (t_n 43 (t_n 40 (t_l 37 (a_inv true 231 2 none)) (t_l 40 (a_if 54 (fun x => !decide (x = 0))))) (t_n 44 (t_l 43 (a_aload 1 0)) (t_n 46 (t_l 44 (a_iload 2 5)) (t_l 46 (a_iload 2 4))))) (t_n 54 (t_n 49 (t_l 48 (a_iload 1 3)) (t_n 52 (t_l 49 (a_inv true 268 4 (some 13))) (t_l 52 (a_istore 6 2 4)))) (t_n 57 (t_l 54 (a_iinc 6 5 1)) (t_n 60 (t_l 57 (a_goto 10)) (t_l 60 (a_iload 1 3)))))) (t_n 70 (t_n 65 (t_n 62 (t_l 61 (a_iload 1 1)) (t_l 62 (a_inv true 231 2 none))) (t_n 68 (t_l 65 (a_if 80 (fun x => decide (x = 0)))) (t_n 69 (t_l 68 (a_aload 1 0)) (t_l 69 (a_aload 1 0))))) (t_n 77 (t_n 73 (t_l 70 (a_getf 13 29)) (t_n 74 (t_l 73 (a_iload 1 1)) (t_l 74 (a_inv true 263 2 none)))) (t_n 80 (t_l 77 (a_putf 9 13 29)) (t_n 82 (t_l 80 (a_iload 2 4)) (t_l 82 a_iret)))))))
set_option maxRecDepth 100000 in
theorem k_X13_go (d : Nat) : ∀ pc, ev_Ok cX13_go 6 [] RX13 lw_g lw_n lw_q vwCl false (ev_CO mt lw_g lw_n lw_q vwCl d) pc (g_X13_go pc) := (ok_t_n (ok_t_n (ok_t_n (ok_t_n (ok_t_n (ok_t_l (ok_iload_n dX13_go_0 rfl)) (ok_t_l (ok_iconst dX13_go_1 rfl))) (ok_t_n (ok_t_l (ok_iload_n dX13_go_2 rfl)) (ok_t_n (ok_t_l (ok_ishl dX13_go_3)) (ok_t_l (ok_ior dX13_go_4))))) (ok_t_n (ok_t_n (ok_t_l (ok_istore dX13_go_5)) (ok_t_l (ok_iconst dX13_go_7 rfl))) (ok_t_n (ok_t_l (ok_istore dX13_go_8)) (ok_t_n (ok_t_l (ok_iload dX13_go_10)) (ok_t_l (ok_aload_n dX13_go_12 rfl)))))) (ok_t_n (ok_t_n (ok_t_n (ok_t_l (ok_getfield dX13_go_13 (ci := 13) (kf := 20) rfl inGX13 (by decide) w_1593)) (ok_t_l (ok_icmp_ge dX13_go_16 rfl))) (ok_t_n (ok_t_l (ok_aload_n dX13_go_19 rfl)) (ok_t_n (ok_t_l (ok_getfield dX13_go_20 (ci := 13) (kf := 22) rfl inGX13 (by decide) w_1595)) (ok_t_l (ok_iload_n dX13_go_23 rfl))))) (ok_t_n (ok_t_n (ok_t_l (ok_iaload dX13_go_24)) (ok_t_n (ok_t_l (ok_iload dX13_go_25)) (ok_t_l (ok_inv (run_S (y := 231) (n := 2) dX13_go_27 cz_231 gdG cc_231 ci_231 w_1753 cm_231 cd_231 cl_231))))) (ok_t_n (ok_t_l (ok_if_eq dX13_go_30 rfl)) (ok_t_n (ok_t_l (ok_iload dX13_go_33)) (ok_t_l (ok_iload dX13_go_35))))))) (ok_t_n (ok_t_n (ok_t_n (ok_t_n (ok_t_l (ok_inv (run_S (y := 231) (n := 2) dX13_go_37 cz_231 gdG cc_231 ci_231 w_1753 cm_231 cd_231 cl_231))) (ok_t_l (ok_if_ne dX13_go_40 rfl))) (ok_t_n (ok_t_l (ok_aload_n dX13_go_43 rfl)) (ok_t_n (ok_t_l (ok_iload dX13_go_44)) (ok_t_l (ok_iload dX13_go_46))))) (ok_t_n (ok_t_n (ok_t_l (ok_iload_n dX13_go_48 rfl)) (ok_t_n (ok_t_l (ok_inv (run_V (y := 268) (n := 3) (ci := 13) dX13_go_49 cz_268 gdG cc_268 ci_268 w_2006 cm_268 cs_268 cd_268 cl_268 rfl rfl))) (ok_t_l (ok_istore dX13_go_52)))) (ok_t_n (ok_t_l (ok_iinc dX13_go_54 rfl)) (ok_t_n (ok_t_l (ok_goto dX13_go_57 rfl)) (ok_t_l (ok_iload_n dX13_go_60 rfl)))))) (ok_t_n (ok_t_n (ok_t_n (ok_t_l (ok_iload_n dX13_go_61 rfl)) (ok_t_l (ok_inv (run_S (y := 231) (n := 2) dX13_go_62 cz_231 gdG cc_231 ci_231 w_1753 cm_231 cd_231 cl_231)))) (ok_t_n (ok_t_l (ok_if_eq dX13_go_65 rfl)) (ok_t_n (ok_t_l (ok_aload_n dX13_go_68 rfl)) (ok_t_l (ok_aload_n dX13_go_69 rfl))))) (ok_t_n (ok_t_n (ok_t_l (ok_getfield dX13_go_70 (ci := 13) (kf := 29) rfl inGX13 (by decide) w_1602)) (ok_t_n (ok_t_l (ok_iload_n dX13_go_73 rfl)) (ok_t_l (ok_inv (run_S (y := 263) (n := 2) dX13_go_74 cz_263 gdG cc_263 ci_263 w_1994 cm_263 cd_263 cl_263))))) (ok_t_n (ok_t_l (ok_putfield dX13_go_77 (ci := 13) (kf := 29) rfl inGX13 (by decide) tyX13_ok nmX13 rfl w_1602 rfl)) (ok_t_n (ok_t_l (ok_iload dX13_go_80)) (ok_t_l (ok_ireturn dX13_go_82))))))))
theorem dX13_open_0 : decode cX13_open 0 = .ok (.aload_n 0, 1) := by decide +kernel
theorem dX13_open_1 : decode cX13_open 1 = .ok (.iconst 0, 1) := by decide +kernel
theorem dX13_open_2 : decode cX13_open 2 = .ok (.putfield 81, 3) := by decide +kernel
theorem dX13_open_5 : decode cX13_open 5 = .ok (.aload_n 0, 1) := by decide +kernel
theorem dX13_open_6 : decode cX13_open 6 = .ok (.iload_n 1, 1) := by decide +kernel
theorem dX13_open_7 : decode cX13_open 7 = .ok (.invokevirtual 223, 3) := by decide +kernel
theorem dX13_open_10 : decode cX13_open 10 = .ok (.ifCond .ne 9, 3) := by decide +kernel
theorem dX13_open_13 : decode cX13_open 13 = .ok (.aload_n 0, 1) := by decide +kernel
theorem dX13_open_14 : decode cX13_open 14 = .ok (.iconst 1, 1) := by decide +kernel
theorem dX13_open_15 : decode cX13_open 15 = .ok (.invokevirtual 94, 3) := by decide +kernel
theorem dX13_open_18 : decode cX13_open 18 = .ok (.ireturn, 1) := by decide +kernel
theorem dX13_open_19 : decode cX13_open 19 = .ok (.aload_n 0, 1) := by decide +kernel
theorem dX13_open_20 : decode cX13_open 20 = .ok (.getfield 63, 3) := by decide +kernel
theorem dX13_open_23 : decode cX13_open 23 = .ok (.iload_n 1, 1) := by decide +kernel
theorem dX13_open_24 : decode cX13_open 24 = .ok (.dup2, 1) := by decide +kernel
theorem dX13_open_25 : decode cX13_open 25 = .ok (.iaload, 1) := by decide +kernel
theorem dX13_open_26 : decode cX13_open 26 = .ok (.iconst 1, 1) := by decide +kernel
theorem dX13_open_27 : decode cX13_open 27 = .ok (.iadd, 1) := by decide +kernel
theorem dX13_open_28 : decode cX13_open 28 = .ok (.iastore, 1) := by decide +kernel
theorem dX13_open_29 : decode cX13_open 29 = .ok (.iconst 0, 1) := by decide +kernel
theorem dX13_open_30 : decode cX13_open 30 = .ok (.istore_n 3, 1) := by decide +kernel
theorem dX13_open_31 : decode cX13_open 31 = .ok (.iconst 0, 1) := by decide +kernel
theorem dX13_open_32 : decode cX13_open 32 = .ok (.istore 4, 2) := by decide +kernel
theorem dX13_open_34 : decode cX13_open 34 = .ok (.aload_n 0, 1) := by decide +kernel
theorem dX13_open_35 : decode cX13_open 35 = .ok (.iload_n 1, 1) := by decide +kernel
theorem dX13_open_36 : decode cX13_open 36 = .ok (.invokevirtual 226, 3) := by decide +kernel
theorem dX13_open_39 : decode cX13_open 39 = .ok (.astore 5, 2) := by decide +kernel
theorem dX13_open_41 : decode cX13_open 41 = .ok (.aload 5, 2) := by decide +kernel
theorem dX13_open_43 : decode cX13_open 43 = .ok (.arraylength, 1) := by decide +kernel
theorem dX13_open_44 : decode cX13_open 44 = .ok (.istore 6, 2) := by decide +kernel
theorem dX13_open_46 : decode cX13_open 46 = .ok (.iconst 0, 1) := by decide +kernel
theorem dX13_open_47 : decode cX13_open 47 = .ok (.istore 7, 2) := by decide +kernel
theorem dX13_open_49 : decode cX13_open 49 = .ok (.iload 7, 2) := by decide +kernel
theorem dX13_open_51 : decode cX13_open 51 = .ok (.iload 6, 2) := by decide +kernel
theorem dX13_open_53 : decode cX13_open 53 = .ok (.if_icmp .ge 76, 3) := by decide +kernel
theorem dX13_open_56 : decode cX13_open 56 = .ok (.aload 5, 2) := by decide +kernel
theorem dX13_open_58 : decode cX13_open 58 = .ok (.iload 7, 2) := by decide +kernel
theorem dX13_open_60 : decode cX13_open 60 = .ok (.iaload, 1) := by decide +kernel
theorem dX13_open_61 : decode cX13_open 61 = .ok (.istore 8, 2) := by decide +kernel
theorem dX13_open_63 : decode cX13_open 63 = .ok (.aload_n 0, 1) := by decide +kernel
theorem dX13_open_64 : decode cX13_open 64 = .ok (.iload 8, 2) := by decide +kernel
theorem dX13_open_66 : decode cX13_open 66 = .ok (.invokevirtual 216, 3) := by decide +kernel
theorem dX13_open_69 : decode cX13_open 69 = .ok (.ifCond .ne 24, 3) := by decide +kernel
theorem dX13_open_72 : decode cX13_open 72 = .ok (.aload_n 0, 1) := by decide +kernel
theorem dX13_open_73 : decode cX13_open 73 = .ok (.getfield 66, 3) := by decide +kernel
theorem dX13_open_76 : decode cX13_open 76 = .ok (.iload 8, 2) := by decide +kernel
theorem dX13_open_78 : decode cX13_open 78 = .ok (.aload_n 0, 1) := by decide +kernel
theorem dX13_open_79 : decode cX13_open 79 = .ok (.invokevirtual 230, 3) := by decide +kernel
theorem dX13_open_82 : decode cX13_open 82 = .ok (.iastore, 1) := by decide +kernel
theorem dX13_open_83 : decode cX13_open 83 = .ok (.iload_n 3, 1) := by decide +kernel
theorem dX13_open_84 : decode cX13_open 84 = .ok (.iconst 1, 1) := by decide +kernel
theorem dX13_open_85 : decode cX13_open 85 = .ok (.iload 8, 2) := by decide +kernel
theorem dX13_open_87 : decode cX13_open 87 = .ok (.ishl, 1) := by decide +kernel
theorem dX13_open_88 : decode cX13_open 88 = .ok (.ior, 1) := by decide +kernel
theorem dX13_open_89 : decode cX13_open 89 = .ok (.istore_n 3, 1) := by decide +kernel
theorem dX13_open_90 : decode cX13_open 90 = .ok (.iinc 4 1, 3) := by decide +kernel
theorem dX13_open_93 : decode cX13_open 93 = .ok (.iload_n 2, 1) := by decide +kernel
theorem dX13_open_94 : decode cX13_open 94 = .ok (.ifCond .eq 29, 3) := by decide +kernel
theorem dX13_open_97 : decode cX13_open 97 = .ok (.aload_n 0, 1) := by decide +kernel
theorem dX13_open_98 : decode cX13_open 98 = .ok (.getfield 75, 3) := by decide +kernel
theorem dX13_open_101 : decode cX13_open 101 = .ok (.iload 8, 2) := by decide +kernel
theorem dX13_open_103 : decode cX13_open 103 = .ok (.invokestatic 212, 3) := by decide +kernel
theorem dX13_open_106 : decode cX13_open 106 = .ok (.iconst (-1), 1) := by decide +kernel
theorem dX13_open_107 : decode cX13_open 107 = .ok (.if_icmp .ne 16, 3) := by decide +kernel
theorem dX13_open_110 : decode cX13_open 110 = .ok (.aload_n 0, 1) := by decide +kernel
theorem dX13_open_111 : decode cX13_open 111 = .ok (.aload_n 0, 1) := by decide +kernel
theorem dX13_open_112 : decode cX13_open 112 = .ok (.getfield 75, 3) := by decide +kernel
theorem dX13_open_115 : decode cX13_open 115 = .ok (.iload 8, 2) := by decide +kernel
theorem dX13_open_117 : decode cX13_open 117 = .ok (.invokestatic 208, 3) := by decide +kernel
theorem dX13_open_120 : decode cX13_open 120 = .ok (.putfield 75, 3) := by decide +kernel
theorem dX13_open_123 : decode cX13_open 123 = .ok (.iinc 7 1, 3) := by decide +kernel
theorem dX13_open_126 : decode cX13_open 126 = .ok (.goto (-77), 3) := by decide +kernel
theorem dX13_open_129 : decode cX13_open 129 = .ok (.aload_n 0, 1) := by decide +kernel
theorem dX13_open_130 : decode cX13_open 130 = .ok (.iload_n 1, 1) := by decide +kernel
theorem dX13_open_131 : decode cX13_open 131 = .ok (.iconst 0, 1) := by decide +kernel
theorem dX13_open_132 : decode cX13_open 132 = .ok (.iload_n 3, 1) := by decide +kernel
theorem dX13_open_133 : decode cX13_open 133 = .ok (.invokevirtual 219, 3) := by decide +kernel
theorem dX13_open_136 : decode cX13_open 136 = .ok (.pop, 1) := by decide +kernel
theorem dX13_open_137 : decode cX13_open 137 = .ok (.iload 4, 2) := by decide +kernel
theorem dX13_open_139 : decode cX13_open 139 = .ok (.ireturn, 1) := by decide +kernel
def g_X13_open : Nat → EA := (t_n 64 (t_n 30 (t_n 18 (t_n 7 (t_n 2 (t_n 1 (t_l 0 (a_aload 1 0)) (t_l 1 (a_push 1 (.int 0)))) (t_n 5 (t_l 2 (a_putf 0 13 0)) (t_n 6 (t_l 5 (a_aload 1 0)) (t_l 6 (a_iload 1 1))))) (t_n 13 (t_n 10 (t_l 7 (a_inv true 260 2 (some 13))) (t_l 10 (a_if 19 (fun x => !decide (x = 0))))) (t_n 14 (t_l 13 (a_aload 1 0)) (t_n 15 (t_l 14 (a_push 1 (.int 1))) (t_l 15 (a_inv true 229 2 (some 13))))))) (t_n 25 (t_n 20 (t_n 19 (t_l 18 a_iret) (t_l 19 (a_aload 1 0))) (t_n 23 (t_l 20 (a_getf 13 24)) (t_n 24 (t_l 23 (a_iload 1 1)) (t_l 24 a_dup2)))) (t_n 27 (t_n 26 (t_l 25 (a_ild 0)) (t_l 26 (a_push 1 (.int 1)))) (t_n 28 (t_l 27 (a_ii 1 (fun x y => x + y))) (t_n 29 (t_l 28 (a_ist 0)) (t_l 29 (a_push 1 (.int 0)))))))) (t_n 46 (t_n 36 (t_n 32 (t_n 31 (t_l 30 (a_istore 9 1 3)) (t_l 31 (a_push 1 (.int 0)))) (t_n 34 (t_l 32 (a_istore 9 2 4)) (t_n 35 (t_l 34 (a_aload 1 0)) (t_l 35 (a_iload 1 1))))) (t_n 41 (t_n 39 (t_l 36 (a_inv true 266 2 (some 13))) (t_l 39 (a_astore 9 2 5))) (t_n 43 (t_l 41 (a_aload 2 5)) (t_n 44 (t_l 43 a_alen) (t_l 44 (a_istore 9 2 6)))))) (t_n 56 (t_n 49 (t_n 47 (t_l 46 (a_push 1 (.int 0))) (t_l 47 (a_istore 9 2 7))) (t_n 51 (t_l 49 (a_iload 2 7)) (t_n 53 (t_l 51 (a_iload 2 6)) (t_l 53 (a_ic 129 (fun x y => decide (y ≤ x))))))) (t_n 60 (t_n 58 (t_l 56 (a_aload 2 5)) (t_l 58 (a_iload 2 7))) (t_n 61 (t_l 60 (a_ild 0)) (t_n 63 (t_l 61 (a_istore 9 2 8)) (t_l 63 (a_aload 1 0)))))))) (t_n 101 (t_n 84 (t_n 76 (t_n 69 (t_n 66 (t_l 64 (a_iload 2 8)) (t_l 66 (a_inv true 261 2 (some 13)))) (t_n 72 (t_l 69 (a_if 93 (fun x => !decide (x = 0)))) (t_n 73 (t_l 72 (a_aload 1 0)) (t_l 73 (a_getf 13 25))))) (t_n 79 (t_n 78 (t_l 76 (a_iload 2 8)) (t_l 78 (a_aload 1 0))) (t_n 82 (t_l 79 (a_inv true 267 1 (some 13))) (t_n 83 (t_l 82 (a_ist 0)) (t_l 83 (a_iload 1 3)))))) (t_n 90 (t_n 87 (t_n 85 (t_l 84 (a_push 1 (.int 1))) (t_l 85 (a_iload 2 8))) (t_n 88 (t_l 87 (a_ii 1 (fun x y => x <<< (y &&& 31)))) (t_n 89 (t_l 88 (a_ii 1 (fun x y => x ||| y))) (t_l 89 (a_istore 9 1 3))))) (t_n 94 (t_n 93 (t_l 90 (a_iinc 9 4 1)) (t_l 93 (a_iload 1 2))) (t_n 97 (t_l 94 (a_if 123 (fun x => decide (x = 0)))) (t_n 98 (t_l 97 (a_aload 1 0)) (t_l 98 (a_getf 13 28))))))) (t_n 123 (t_n 111 (t_n 106 (t_n 103 (t_l 101 (a_iload 2 8)) (t_l 103 (a_inv true 264 2 none))) (t_n 107 (t_l 106 (a_push 1 (.int (-1)))) (t_n 110 (t_l 107 (a_ic 123 (fun x y => !decide (x = y)))) (t_l 110 (a_aload 1 0))))) (t_n 115 (t_n 112 (t_l 111 (a_aload 1 0)) (t_l 112 (a_getf 13 28))) (t_n 117 (t_l 115 (a_iload 2 8)) (t_n 120 (t_l 117 (a_inv true 263 2 none)) (t_l 120 (a_putf 9 13 28)))))) (t_n 132 (t_n 129 (t_n 126 (t_l 123 (a_iinc 9 7 1)) (t_l 126 (a_goto 49))) (t_n 130 (t_l 129 (a_aload 1 0)) (t_n 131 (t_l 130 (a_iload 1 1)) (t_l 131 (a_push 1 (.int 0)))))) (t_n 136 (t_n 133 (t_l 132 (a_iload 1 3)) (t_l 133 (a_inv true 268 4 (some 13)))) (t_n 137 (t_l 136 a_pop) (t_n 139 (t_l 137 (a_iload 2 4)) (t_l 139 a_iret))))))))
set_option maxRecDepth 100000 in
theorem k_X13_open (d : Nat) : ∀ pc, ev_Ok cX13_open 9 [] RX13 lw_g lw_n lw_q vwCl false (ev_CO mt lw_g lw_n lw_q vwCl d) pc (g_X13_open pc) := (ok_t_n (ok_t_n (ok_t_n (ok_t_n (ok_t_n (ok_t_n (ok_t_l (ok_aload_n dX13_open_0 rfl)) (ok_t_l (ok_iconst dX13_open_1 rfl))) (ok_t_n (ok_t_l (ok_putfield dX13_open_2 (ci := 13) (kf := 0) rfl inGX13 (by decide) tyX13_ok nmX13 rfl w_1559 rfl)) (ok_t_n (ok_t_l (ok_aload_n dX13_open_5 rfl)) (ok_t_l (ok_iload_n dX13_open_6 rfl))))) (ok_t_n (ok_t_n (ok_t_l (ok_inv (run_V (y := 260) (n := 1) (ci := 13) dX13_open_7 cz_260 gdG cc_260 ci_260 w_1983 cm_260 cs_260 cd_260 cl_260 rfl rfl))) (ok_t_l (ok_if_ne dX13_open_10 rfl))) (ok_t_n (ok_t_l (ok_aload_n dX13_open_13 rfl)) (ok_t_n (ok_t_l (ok_iconst dX13_open_14 rfl)) (ok_t_l (ok_inv (run_V (y := 229) (n := 1) (ci := 13) dX13_open_15 cz_229 gdG cc_229 ci_229 w_1672 cm_229 cs_229 cd_229 cl_229 rfl rfl))))))) (ok_t_n (ok_t_n (ok_t_n (ok_t_l (ok_ireturn dX13_open_18)) (ok_t_l (ok_aload_n dX13_open_19 rfl))) (ok_t_n (ok_t_l (ok_getfield dX13_open_20 (ci := 13) (kf := 24) rfl inGX13 (by decide) w_1597)) (ok_t_n (ok_t_l (ok_iload_n dX13_open_23 rfl)) (ok_t_l (ok_dup2 dX13_open_24))))) (ok_t_n (ok_t_n (ok_t_l (ok_iaload dX13_open_25)) (ok_t_l (ok_iconst dX13_open_26 rfl))) (ok_t_n (ok_t_l (ok_iadd dX13_open_27)) (ok_t_n (ok_t_l (ok_iastore dX13_open_28)) (ok_t_l (ok_iconst dX13_open_29 rfl))))))) (ok_t_n (ok_t_n (ok_t_n (ok_t_n (ok_t_l (ok_istore_n dX13_open_30 rfl)) (ok_t_l (ok_iconst dX13_open_31 rfl))) (ok_t_n (ok_t_l (ok_istore dX13_open_32)) (ok_t_n (ok_t_l (ok_aload_n dX13_open_34 rfl)) (ok_t_l (ok_iload_n dX13_open_35 rfl))))) (ok_t_n (ok_t_n (ok_t_l (ok_inv (run_V (y := 266) (n := 1) (ci := 13) dX13_open_36 cz_266 gdG cc_266 ci_266 w_1987 cm_266 cs_266 cd_266 cl_266 rfl rfl))) (ok_t_l (ok_astore dX13_open_39))) (ok_t_n (ok_t_l (ok_aload dX13_open_41)) (ok_t_n (ok_t_l (ok_arraylength dX13_open_43)) (ok_t_l (ok_istore dX13_open_44)))))) (ok_t_n (ok_t_n (ok_t_n (ok_t_l (ok_iconst dX13_open_46 rfl)) (ok_t_l (ok_istore dX13_open_47))) (ok_t_n (ok_t_l (ok_iload dX13_open_49)) (ok_t_n (ok_t_l (ok_iload dX13_open_51)) (ok_t_l (ok_icmp_ge dX13_open_53 rfl))))) (ok_t_n (ok_t_n (ok_t_l (ok_aload dX13_open_56)) (ok_t_l (ok_iload dX13_open_58))) (ok_t_n (ok_t_l (ok_iaload dX13_open_60)) (ok_t_n (ok_t_l (ok_istore dX13_open_61)) (ok_t_l (ok_aload_n dX13_open_63 rfl)))))))) (ok_t_n (ok_t_n (ok_t_n (ok_t_n (ok_t_n (ok_t_l (ok_iload dX13_open_64)) (ok_t_l (ok_inv (run_V (y := 261) (n := 1) (ci := 13) dX13_open_66 cz_261 gdG cc_261 ci_261 w_1998 cm_261 cs_261 cd_261 cl_261 rfl rfl)))) (ok_t_n (ok_t_l (ok_if_ne dX13_open_69 rfl)) (ok_t_n (ok_t_l (ok_aload_n dX13_open_72 rfl)) (ok_t_l (ok_getfield dX13_open_73 (ci := 13) (kf := 25) rfl inGX13 (by decide) w_1598))))) (ok_t_n (ok_t_n (ok_t_l (ok_iload dX13_open_76)) (ok_t_l (ok_aload_n dX13_open_78 rfl))) (ok_t_n (ok_t_l (ok_inv (run_V (y := 267) (n := 0) (ci := 13) dX13_open_79 cz_267 gdG cc_267 ci_267 w_2002 cm_267 cs_267 cd_267 cl_267 rfl rfl))) (ok_t_n (ok_t_l (ok_iastore dX13_open_82)) (ok_t_l (ok_iload_n dX13_open_83 rfl)))))) (ok_t_n (ok_t_n (ok_t_n (ok_t_l (ok_iconst dX13_open_84 rfl)) (ok_t_l (ok_iload dX13_open_85))) (ok_t_n (ok_t_l (ok_ishl dX13_open_87)) (ok_t_n (ok_t_l (ok_ior dX13_open_88)) (ok_t_l (ok_istore_n dX13_open_89 rfl))))) (ok_t_n (ok_t_n (ok_t_l (ok_iinc dX13_open_90 rfl)) (ok_t_l (ok_iload_n dX13_open_93 rfl))) (ok_t_n (ok_t_l (ok_if_eq dX13_open_94 rfl)) (ok_t_n (ok_t_l (ok_aload_n dX13_open_97 rfl)) (ok_t_l (ok_getfield dX13_open_98 (ci := 13) (kf := 28) rfl inGX13 (by decide) w_1601))))))) (ok_t_n (ok_t_n (ok_t_n (ok_t_n (ok_t_l (ok_iload dX13_open_101)) (ok_t_l (ok_inv (run_S (y := 264) (n := 2) dX13_open_103 cz_264 gdG cc_264 ci_264 w_1991 cm_264 cd_264 cl_264)))) (ok_t_n (ok_t_l (ok_iconst dX13_open_106 rfl)) (ok_t_n (ok_t_l (ok_icmp_ne dX13_open_107 rfl)) (ok_t_l (ok_aload_n dX13_open_110 rfl))))) (ok_t_n (ok_t_n (ok_t_l (ok_aload_n dX13_open_111 rfl)) (ok_t_l (ok_getfield dX13_open_112 (ci := 13) (kf := 28) rfl inGX13 (by decide) w_1601))) (ok_t_n (ok_t_l (ok_iload dX13_open_115)) (ok_t_n (ok_t_l (ok_inv (run_S (y := 263) (n := 2) dX13_open_117 cz_263 gdG cc_263 ci_263 w_1994 cm_263 cd_263 cl_263))) (ok_t_l (ok_putfield dX13_open_120 (ci := 13) (kf := 28) rfl inGX13 (by decide) tyX13_ok nmX13 rfl w_1601 rfl)))))) (ok_t_n (ok_t_n (ok_t_n (ok_t_l (ok_iinc dX13_open_123 rfl)) (ok_t_l (ok_goto dX13_open_126 rfl))) (ok_t_n (ok_t_l (ok_aload_n dX13_open_129 rfl)) (ok_t_n (ok_t_l (ok_iload_n dX13_open_130 rfl)) (ok_t_l (ok_iconst dX13_open_131 rfl))))) (ok_t_n (ok_t_n (ok_t_l (ok_iload_n dX13_open_132 rfl)) (ok_t_l (ok_inv (run_V (y := 268) (n := 3) (ci := 13) dX13_open_133 cz_268 gdG cc_268 ci_268 w_2006 cm_268 cs_268 cd_268 cl_268 rfl rfl)))) (ok_t_n (ok_t_l (ok_pop dX13_open_136)) (ok_t_n (ok_t_l (ok_iload dX13_open_137)) (ok_t_l (ok_ireturn dX13_open_139)))))))))
theorem dX13_goesNow_0 : decode cX13_goesNow 0 = .ok (.aload_n 0, 1) := by decide +kernel
theorem dX13_goesNow_1 : decode cX13_goesNow 1 = .ok (.getfield 63, 3) := by decide +kernel
theorem dX13_goesNow_4 : decode cX13_goesNow 4 = .ok (.iload_n 1, 1) := by decide +kernel
theorem dX13_goesNow_5 : decode cX13_goesNow 5 = .ok (.iaload, 1) := by decide +kernel
theorem dX13_goesNow_6 : decode cX13_goesNow 6 = .ok (.ifCond .ne 5, 3) := by decide +kernel
theorem dX13_goesNow_9 : decode cX13_goesNow 9 = .ok (.iconst 0, 1) := by decide +kernel
theorem dX13_goesNow_10 : decode cX13_goesNow 10 = .ok (.ireturn, 1) := by decide +kernel
theorem dX13_goesNow_11 : decode cX13_goesNow 11 = .ok (.iconst 0, 1) := by decide +kernel
theorem dX13_goesNow_12 : decode cX13_goesNow 12 = .ok (.istore_n 2, 1) := by decide +kernel
theorem dX13_goesNow_13 : decode cX13_goesNow 13 = .ok (.iconst 0, 1) := by decide +kernel
theorem dX13_goesNow_14 : decode cX13_goesNow 14 = .ok (.istore_n 3, 1) := by decide +kernel
theorem dX13_goesNow_15 : decode cX13_goesNow 15 = .ok (.iload_n 3, 1) := by decide +kernel
theorem dX13_goesNow_16 : decode cX13_goesNow 16 = .ok (.aload_n 0, 1) := by decide +kernel
theorem dX13_goesNow_17 : decode cX13_goesNow 17 = .ok (.getfield 188, 3) := by decide +kernel
theorem dX13_goesNow_20 : decode cX13_goesNow 20 = .ok (.if_icmp .ge 70, 3) := by decide +kernel
theorem dX13_goesNow_23 : decode cX13_goesNow 23 = .ok (.aload_n 0, 1) := by decide +kernel
theorem dX13_goesNow_24 : decode cX13_goesNow 24 = .ok (.getfield 63, 3) := by decide +kernel
theorem dX13_goesNow_27 : decode cX13_goesNow 27 = .ok (.iload_n 3, 1) := by decide +kernel
theorem dX13_goesNow_28 : decode cX13_goesNow 28 = .ok (.iaload, 1) := by decide +kernel
theorem dX13_goesNow_29 : decode cX13_goesNow 29 = .ok (.iload_n 3, 1) := by decide +kernel
theorem dX13_goesNow_30 : decode cX13_goesNow 30 = .ok (.iload_n 1, 1) := by decide +kernel
theorem dX13_goesNow_31 : decode cX13_goesNow 31 = .ok (.if_icmp .ne 7, 3) := by decide +kernel
theorem dX13_goesNow_34 : decode cX13_goesNow 34 = .ok (.iconst 1, 1) := by decide +kernel
theorem dX13_goesNow_35 : decode cX13_goesNow 35 = .ok (.goto 4, 3) := by decide +kernel
theorem dX13_goesNow_38 : decode cX13_goesNow 38 = .ok (.iconst 0, 1) := by decide +kernel
theorem dX13_goesNow_39 : decode cX13_goesNow 39 = .ok (.if_icmp .le 45, 3) := by decide +kernel
theorem dX13_goesNow_42 : decode cX13_goesNow 42 = .ok (.aload_n 0, 1) := by decide +kernel
theorem dX13_goesNow_43 : decode cX13_goesNow 43 = .ok (.iload_n 3, 1) := by decide +kernel
theorem dX13_goesNow_44 : decode cX13_goesNow 44 = .ok (.invokevirtual 226, 3) := by decide +kernel
theorem dX13_goesNow_47 : decode cX13_goesNow 47 = .ok (.astore 4, 2) := by decide +kernel
theorem dX13_goesNow_49 : decode cX13_goesNow 49 = .ok (.aload 4, 2) := by decide +kernel
theorem dX13_goesNow_51 : decode cX13_goesNow 51 = .ok (.arraylength, 1) := by decide +kernel
theorem dX13_goesNow_52 : decode cX13_goesNow 52 = .ok (.istore 5, 2) := by decide +kernel
theorem dX13_goesNow_54 : decode cX13_goesNow 54 = .ok (.iconst 0, 1) := by decide +kernel
theorem dX13_goesNow_55 : decode cX13_goesNow 55 = .ok (.istore 6, 2) := by decide +kernel
theorem dX13_goesNow_57 : decode cX13_goesNow 57 = .ok (.iload 6, 2) := by decide +kernel
theorem dX13_goesNow_59 : decode cX13_goesNow 59 = .ok (.iload 5, 2) := by decide +kernel
theorem dX13_goesNow_61 : decode cX13_goesNow 61 = .ok (.if_icmp .ge 23, 3) := by decide +kernel
theorem dX13_goesNow_64 : decode cX13_goesNow 64 = .ok (.aload 4, 2) := by decide +kernel
theorem dX13_goesNow_66 : decode cX13_goesNow 66 = .ok (.iload 6, 2) := by decide +kernel
theorem dX13_goesNow_68 : decode cX13_goesNow 68 = .ok (.iaload, 1) := by decide +kernel
theorem dX13_goesNow_69 : decode cX13_goesNow 69 = .ok (.istore 7, 2) := by decide +kernel
theorem dX13_goesNow_71 : decode cX13_goesNow 71 = .ok (.iload_n 2, 1) := by decide +kernel
theorem dX13_goesNow_72 : decode cX13_goesNow 72 = .ok (.iconst 1, 1) := by decide +kernel
theorem dX13_goesNow_73 : decode cX13_goesNow 73 = .ok (.iload 7, 2) := by decide +kernel
theorem dX13_goesNow_75 : decode cX13_goesNow 75 = .ok (.ishl, 1) := by decide +kernel
theorem dX13_goesNow_76 : decode cX13_goesNow 76 = .ok (.ior, 1) := by decide +kernel
theorem dX13_goesNow_77 : decode cX13_goesNow 77 = .ok (.istore_n 2, 1) := by decide +kernel
theorem dX13_goesNow_78 : decode cX13_goesNow 78 = .ok (.iinc 6 1, 3) := by decide +kernel
theorem dX13_goesNow_81 : decode cX13_goesNow 81 = .ok (.goto (-24), 3) := by decide +kernel
theorem dX13_goesNow_84 : decode cX13_goesNow 84 = .ok (.iinc 3 1, 3) := by decide +kernel
theorem dX13_goesNow_87 : decode cX13_goesNow 87 = .ok (.goto (-72), 3) := by decide +kernel
theorem dX13_goesNow_90 : decode cX13_goesNow 90 = .ok (.iconst 0, 1) := by decide +kernel
theorem dX13_goesNow_91 : decode cX13_goesNow 91 = .ok (.istore_n 3, 1) := by decide +kernel
theorem dX13_goesNow_92 : decode cX13_goesNow 92 = .ok (.iconst 0, 1) := by decide +kernel
theorem dX13_goesNow_93 : decode cX13_goesNow 93 = .ok (.istore 4, 2) := by decide +kernel
theorem dX13_goesNow_95 : decode cX13_goesNow 95 = .ok (.iload 4, 2) := by decide +kernel
theorem dX13_goesNow_97 : decode cX13_goesNow 97 = .ok (.aload_n 0, 1) := by decide +kernel
theorem dX13_goesNow_98 : decode cX13_goesNow 98 = .ok (.getfield 188, 3) := by decide +kernel
theorem dX13_goesNow_101 : decode cX13_goesNow 101 = .ok (.if_icmp .ge 38, 3) := by decide +kernel
theorem dX13_goesNow_104 : decode cX13_goesNow 104 = .ok (.iload_n 3, 1) := by decide +kernel
theorem dX13_goesNow_105 : decode cX13_goesNow 105 = .ok (.aload_n 0, 1) := by decide +kernel
theorem dX13_goesNow_106 : decode cX13_goesNow 106 = .ok (.iload 4, 2) := by decide +kernel
theorem dX13_goesNow_108 : decode cX13_goesNow 108 = .ok (.invokevirtual 216, 3) := by decide +kernel
theorem dX13_goesNow_111 : decode cX13_goesNow 111 = .ok (.ifCond .eq 19, 3) := by decide +kernel
theorem dX13_goesNow_114 : decode cX13_goesNow 114 = .ok (.iload_n 2, 1) := by decide +kernel
theorem dX13_goesNow_115 : decode cX13_goesNow 115 = .ok (.iload 4, 2) := by decide +kernel
theorem dX13_goesNow_117 : decode cX13_goesNow 117 = .ok (.invokestatic 125, 3) := by decide +kernel
theorem dX13_goesNow_120 : decode cX13_goesNow 120 = .ok (.ifCond .ne 10, 3) := by decide +kernel
theorem dX13_goesNow_123 : decode cX13_goesNow 123 = .ok (.iconst 1, 1) := by decide +kernel
theorem dX13_goesNow_124 : decode cX13_goesNow 124 = .ok (.iload 4, 2) := by decide +kernel
theorem dX13_goesNow_126 : decode cX13_goesNow 126 = .ok (.ishl, 1) := by decide +kernel
theorem dX13_goesNow_127 : decode cX13_goesNow 127 = .ok (.goto 4, 3) := by decide +kernel
theorem dX13_goesNow_130 : decode cX13_goesNow 130 = .ok (.iconst 0, 1) := by decide +kernel
theorem dX13_goesNow_131 : decode cX13_goesNow 131 = .ok (.ior, 1) := by decide +kernel
theorem dX13_goesNow_132 : decode cX13_goesNow 132 = .ok (.istore_n 3, 1) := by decide +kernel
theorem dX13_goesNow_133 : decode cX13_goesNow 133 = .ok (.iinc 4 1, 3) := by decide +kernel
theorem dX13_goesNow_136 : decode cX13_goesNow 136 = .ok (.goto (-41), 3) := by decide +kernel
theorem dX13_goesNow_139 : decode cX13_goesNow 139 = .ok (.iload_n 3, 1) := by decide +kernel
theorem dX13_goesNow_140 : decode cX13_goesNow 140 = .ok (.ireturn, 1) := by decide +kernel
def g_X13_goesNow : Nat → EA := (t_n 68 (t_n 30 (t_n 14 (t_n 9 (t_n 4 (t_n 1 (t_l 0 (a_aload 1 0)) (t_l 1 (a_getf 13 24))) (t_n 5 (t_l 4 (a_iload 1 1)) (t_n 6 (t_l 5 (a_ild 0)) (t_l 6 (a_if 11 (fun x => !decide (x = 0))))))) (t_n 11 (t_n 10 (t_l 9 (a_push 1 (.int 0))) (t_l 10 a_iret)) (t_n 12 (t_l 11 (a_push 1 (.int 0))) (t_n 13 (t_l 12 (a_istore 8 1 2)) (t_l 13 (a_push 1 (.int 0))))))) (t_n 23 (t_n 16 (t_n 15 (t_l 14 (a_istore 8 1 3)) (t_l 15 (a_iload 1 3))) (t_n 17 (t_l 16 (a_aload 1 0)) (t_n 20 (t_l 17 (a_getf 13 20)) (t_l 20 (a_ic 90 (fun x y => decide (y ≤ x))))))) (t_n 27 (t_n 24 (t_l 23 (a_aload 1 0)) (t_l 24 (a_getf 13 24))) (t_n 28 (t_l 27 (a_iload 1 3)) (t_n 29 (t_l 28 (a_ild 0)) (t_l 29 (a_iload 1 3))))))) (t_n 49 (t_n 39 (t_n 34 (t_n 31 (t_l 30 (a_iload 1 1)) (t_l 31 (a_ic 38 (fun x y => !decide (x = y))))) (t_n 35 (t_l 34 (a_push 1 (.int 1))) (t_n 38 (t_l 35 (a_goto 39)) (t_l 38 (a_push 1 (.int 0)))))) (t_n 43 (t_n 42 (t_l 39 (a_ic 84 (fun x y => decide (x ≤ y)))) (t_l 42 (a_aload 1 0))) (t_n 44 (t_l 43 (a_iload 1 3)) (t_n 47 (t_l 44 (a_inv true 266 2 (some 13))) (t_l 47 (a_astore 8 2 4)))))) (t_n 57 (t_n 52 (t_n 51 (t_l 49 (a_aload 2 4)) (t_l 51 a_alen)) (t_n 54 (t_l 52 (a_istore 8 2 5)) (t_n 55 (t_l 54 (a_push 1 (.int 0))) (t_l 55 (a_istore 8 2 6))))) (t_n 61 (t_n 59 (t_l 57 (a_iload 2 6)) (t_l 59 (a_iload 2 5))) (t_n 64 (t_l 61 (a_ic 84 (fun x y => decide (y ≤ x)))) (t_n 66 (t_l 64 (a_aload 2 4)) (t_l 66 (a_iload 2 6)))))))) (t_n 104 (t_n 84 (t_n 75 (t_n 71 (t_n 69 (t_l 68 (a_ild 0)) (t_l 69 (a_istore 8 2 7))) (t_n 72 (t_l 71 (a_iload 1 2)) (t_n 73 (t_l 72 (a_push 1 (.int 1))) (t_l 73 (a_iload 2 7))))) (t_n 77 (t_n 76 (t_l 75 (a_ii 1 (fun x y => x <<< (y &&& 31)))) (t_l 76 (a_ii 1 (fun x y => x ||| y)))) (t_n 78 (t_l 77 (a_istore 8 1 2)) (t_n 81 (t_l 78 (a_iinc 8 6 1)) (t_l 81 (a_goto 57)))))) (t_n 93 (t_n 90 (t_n 87 (t_l 84 (a_iinc 8 3 1)) (t_l 87 (a_goto 15))) (t_n 91 (t_l 90 (a_push 1 (.int 0))) (t_n 92 (t_l 91 (a_istore 8 1 3)) (t_l 92 (a_push 1 (.int 0)))))) (t_n 97 (t_n 95 (t_l 93 (a_istore 8 2 4)) (t_l 95 (a_iload 2 4))) (t_n 98 (t_l 97 (a_aload 1 0)) (t_n 101 (t_l 98 (a_getf 13 20)) (t_l 101 (a_ic 139 (fun x y => decide (y ≤ x))))))))) (t_n 124 (t_n 114 (t_n 106 (t_n 105 (t_l 104 (a_iload 1 3)) (t_l 105 (a_aload 1 0))) (t_n 108 (t_l 106 (a_iload 2 4)) (t_n 111 (t_l 108 (a_inv true 261 2 (some 13))) (t_l 111 (a_if 130 (fun x => decide (x = 0))))))) (t_n 117 (t_n 115 (t_l 114 (a_iload 1 2)) (t_l 115 (a_iload 2 4))) (t_n 120 (t_l 117 (a_inv true 231 2 none)) (t_n 123 (t_l 120 (a_if 130 (fun x => !decide (x = 0)))) (t_l 123 (a_push 1 (.int 1))))))) (t_n 132 (t_n 127 (t_n 126 (t_l 124 (a_iload 2 4)) (t_l 126 (a_ii 1 (fun x y => x <<< (y &&& 31))))) (t_n 130 (t_l 127 (a_goto 131)) (t_n 131 (t_l 130 (a_push 1 (.int 0))) (t_l 131 (a_ii 1 (fun x y => x ||| y)))))) (t_n 136 (t_n 133 (t_l 132 (a_istore 8 1 3)) (t_l 133 (a_iinc 8 4 1))) (t_n 139 (t_l 136 (a_goto 95)) (t_n 140 (t_l 139 (a_iload 1 3)) (t_l 140 a_iret))))))))
set_option maxRecDepth 100000 in
theorem k_X13_goesNow (d : Nat) : ∀ pc, ev_Ok cX13_goesNow 8 [] RX13 lw_g lw_n lw_q vwCl false (ev_CO mt lw_g lw_n lw_q vwCl d) pc (g_X13_goesNow pc) := (ok_t_n (ok_t_n (ok_t_n (ok_t_n (ok_t_n (ok_t_n (ok_t_l (ok_aload_n dX13_goesNow_0 rfl)) (ok_t_l (ok_getfield dX13_goesNow_1 (ci := 13) (kf := 24) rfl inGX13 (by decide) w_1597))) (ok_t_n (ok_t_l (ok_iload_n dX13_goesNow_4 rfl)) (ok_t_n (ok_t_l (ok_iaload dX13_goesNow_5)) (ok_t_l (ok_if_ne dX13_goesNow_6 rfl))))) (ok_t_n (ok_t_n (ok_t_l (ok_iconst dX13_goesNow_9 rfl)) (ok_t_l (ok_ireturn dX13_goesNow_10))) (ok_t_n (ok_t_l (ok_iconst dX13_goesNow_11 rfl)) (ok_t_n (ok_t_l (ok_istore_n dX13_goesNow_12 rfl)) (ok_t_l (ok_iconst dX13_goesNow_13 rfl)))))) (ok_t_n (ok_t_n (ok_t_n (ok_t_l (ok_istore_n dX13_goesNow_14 rfl)) (ok_t_l (ok_iload_n dX13_goesNow_15 rfl))) (ok_t_n (ok_t_l (ok_aload_n dX13_goesNow_16 rfl)) (ok_t_n (ok_t_l (ok_getfield dX13_goesNow_17 (ci := 13) (kf := 20) rfl inGX13 (by decide) w_1593)) (ok_t_l (ok_icmp_ge dX13_goesNow_20 rfl))))) (ok_t_n (ok_t_n (ok_t_l (ok_aload_n dX13_goesNow_23 rfl)) (ok_t_l (ok_getfield dX13_goesNow_24 (ci := 13) (kf := 24) rfl inGX13 (by decide) w_1597))) (ok_t_n (ok_t_l (ok_iload_n dX13_goesNow_27 rfl)) (ok_t_n (ok_t_l (ok_iaload dX13_goesNow_28)) (ok_t_l (ok_iload_n dX13_goesNow_29 rfl))))))) (ok_t_n (ok_t_n (ok_t_n (ok_t_n (ok_t_l (ok_iload_n dX13_goesNow_30 rfl)) (ok_t_l (ok_icmp_ne dX13_goesNow_31 rfl))) (ok_t_n (ok_t_l (ok_iconst dX13_goesNow_34 rfl)) (ok_t_n (ok_t_l (ok_goto dX13_goesNow_35 rfl)) (ok_t_l (ok_iconst dX13_goesNow_38 rfl))))) (ok_t_n (ok_t_n (ok_t_l (ok_icmp_le dX13_goesNow_39 rfl)) (ok_t_l (ok_aload_n dX13_goesNow_42 rfl))) (ok_t_n (ok_t_l (ok_iload_n dX13_goesNow_43 rfl)) (ok_t_n (ok_t_l (ok_inv (run_V (y := 266) (n := 1) (ci := 13) dX13_goesNow_44 cz_266 gdG cc_266 ci_266 w_1987 cm_266 cs_266 cd_266 cl_266 rfl rfl))) (ok_t_l (ok_astore dX13_goesNow_47)))))) (ok_t_n (ok_t_n (ok_t_n (ok_t_l (ok_aload dX13_goesNow_49)) (ok_t_l (ok_arraylength dX13_goesNow_51))) (ok_t_n (ok_t_l (ok_istore dX13_goesNow_52)) (ok_t_n (ok_t_l (ok_iconst dX13_goesNow_54 rfl)) (ok_t_l (ok_istore dX13_goesNow_55))))) (ok_t_n (ok_t_n (ok_t_l (ok_iload dX13_goesNow_57)) (ok_t_l (ok_iload dX13_goesNow_59))) (ok_t_n (ok_t_l (ok_icmp_ge dX13_goesNow_61 rfl)) (ok_t_n (ok_t_l (ok_aload dX13_goesNow_64)) (ok_t_l (ok_iload dX13_goesNow_66)))))))) (ok_t_n (ok_t_n (ok_t_n (ok_t_n (ok_t_n (ok_t_l (ok_iaload dX13_goesNow_68)) (ok_t_l (ok_istore dX13_goesNow_69))) (ok_t_n (ok_t_l (ok_iload_n dX13_goesNow_71 rfl)) (ok_t_n (ok_t_l (ok_iconst dX13_goesNow_72 rfl)) (ok_t_l (ok_iload dX13_goesNow_73))))) (ok_t_n (ok_t_n (ok_t_l (ok_ishl dX13_goesNow_75)) (ok_t_l (ok_ior dX13_goesNow_76))) (ok_t_n (ok_t_l (ok_istore_n dX13_goesNow_77 rfl)) (ok_t_n (ok_t_l (ok_iinc dX13_goesNow_78 rfl)) (ok_t_l (ok_goto dX13_goesNow_81 rfl)))))) (ok_t_n (ok_t_n (ok_t_n (ok_t_l (ok_iinc dX13_goesNow_84 rfl)) (ok_t_l (ok_goto dX13_goesNow_87 rfl))) (ok_t_n (ok_t_l (ok_iconst dX13_goesNow_90 rfl)) (ok_t_n (ok_t_l (ok_istore_n dX13_goesNow_91 rfl)) (ok_t_l (ok_iconst dX13_goesNow_92 rfl))))) (ok_t_n (ok_t_n (ok_t_l (ok_istore dX13_goesNow_93)) (ok_t_l (ok_iload dX13_goesNow_95))) (ok_t_n (ok_t_l (ok_aload_n dX13_goesNow_97 rfl)) (ok_t_n (ok_t_l (ok_getfield dX13_goesNow_98 (ci := 13) (kf := 20) rfl inGX13 (by decide) w_1593)) (ok_t_l (ok_icmp_ge dX13_goesNow_101 rfl))))))) (ok_t_n (ok_t_n (ok_t_n (ok_t_n (ok_t_l (ok_iload_n dX13_goesNow_104 rfl)) (ok_t_l (ok_aload_n dX13_goesNow_105 rfl))) (ok_t_n (ok_t_l (ok_iload dX13_goesNow_106)) (ok_t_n (ok_t_l (ok_inv (run_V (y := 261) (n := 1) (ci := 13) dX13_goesNow_108 cz_261 gdG cc_261 ci_261 w_1998 cm_261 cs_261 cd_261 cl_261 rfl rfl))) (ok_t_l (ok_if_eq dX13_goesNow_111 rfl))))) (ok_t_n (ok_t_n (ok_t_l (ok_iload_n dX13_goesNow_114 rfl)) (ok_t_l (ok_iload dX13_goesNow_115))) (ok_t_n (ok_t_l (ok_inv (run_S (y := 231) (n := 2) dX13_goesNow_117 cz_231 gdG cc_231 ci_231 w_1753 cm_231 cd_231 cl_231))) (ok_t_n (ok_t_l (ok_if_ne dX13_goesNow_120 rfl)) (ok_t_l (ok_iconst dX13_goesNow_123 rfl)))))) (ok_t_n (ok_t_n (ok_t_n (ok_t_l (ok_iload dX13_goesNow_124)) (ok_t_l (ok_ishl dX13_goesNow_126))) (ok_t_n (ok_t_l (ok_goto dX13_goesNow_127 rfl)) (ok_t_n (ok_t_l (ok_iconst dX13_goesNow_130 rfl)) (ok_t_l (ok_ior dX13_goesNow_131))))) (ok_t_n (ok_t_n (ok_t_l (ok_istore_n dX13_goesNow_132 rfl)) (ok_t_l (ok_iinc dX13_goesNow_133 rfl))) (ok_t_n (ok_t_l (ok_goto dX13_goesNow_136 rfl)) (ok_t_n (ok_t_l (ok_iload_n dX13_goesNow_139 rfl)) (ok_t_l (ok_ireturn dX13_goesNow_140)))))))))
theorem dX13_close_0 : decode cX13_close 0 = .ok (.aload_n 0, 1) := by decide +kernel
theorem dX13_close_1 : decode cX13_close 1 = .ok (.iconst 0, 1) := by decide +kernel
theorem dX13_close_2 : decode cX13_close 2 = .ok (.putfield 81, 3) := by decide +kernel
theorem dX13_close_5 : decode cX13_close 5 = .ok (.aload_n 0, 1) := by decide +kernel
theorem dX13_close_6 : decode cX13_close 6 = .ok (.iload_n 1, 1) := by decide +kernel
theorem dX13_close_7 : decode cX13_close 7 = .ok (.invokevirtual 223, 3) := by decide +kernel
theorem dX13_close_10 : decode cX13_close 10 = .ok (.ifCond .ne 9, 3) := by decide +kernel
theorem dX13_close_13 : decode cX13_close 13 = .ok (.aload_n 0, 1) := by decide +kernel
theorem dX13_close_14 : decode cX13_close 14 = .ok (.iconst 1, 1) := by decide +kernel
theorem dX13_close_15 : decode cX13_close 15 = .ok (.invokevirtual 94, 3) := by decide +kernel
theorem dX13_close_18 : decode cX13_close 18 = .ok (.ireturn, 1) := by decide +kernel
theorem dX13_close_19 : decode cX13_close 19 = .ok (.aload_n 0, 1) := by decide +kernel
theorem dX13_close_20 : decode cX13_close 20 = .ok (.getfield 63, 3) := by decide +kernel
theorem dX13_close_23 : decode cX13_close 23 = .ok (.iload_n 1, 1) := by decide +kernel
theorem dX13_close_24 : decode cX13_close 24 = .ok (.iaload, 1) := by decide +kernel
theorem dX13_close_25 : decode cX13_close 25 = .ok (.ifCond .ne 9, 3) := by decide +kernel
theorem dX13_close_28 : decode cX13_close 28 = .ok (.aload_n 0, 1) := by decide +kernel
theorem dX13_close_29 : decode cX13_close 29 = .ok (.iconst 2, 1) := by decide +kernel
theorem dX13_close_30 : decode cX13_close 30 = .ok (.invokevirtual 94, 3) := by decide +kernel
theorem dX13_close_33 : decode cX13_close 33 = .ok (.ireturn, 1) := by decide +kernel
theorem dX13_close_34 : decode cX13_close 34 = .ok (.aload_n 0, 1) := by decide +kernel
theorem dX13_close_35 : decode cX13_close 35 = .ok (.iload_n 1, 1) := by decide +kernel
theorem dX13_close_36 : decode cX13_close 36 = .ok (.invokevirtual 234, 3) := by decide +kernel
theorem dX13_close_39 : decode cX13_close 39 = .ok (.istore_n 2, 1) := by decide +kernel
theorem dX13_close_40 : decode cX13_close 40 = .ok (.aload_n 0, 1) := by decide +kernel
theorem dX13_close_41 : decode cX13_close 41 = .ok (.getfield 63, 3) := by decide +kernel
theorem dX13_close_44 : decode cX13_close 44 = .ok (.iload_n 1, 1) := by decide +kernel
theorem dX13_close_45 : decode cX13_close 45 = .ok (.dup2, 1) := by decide +kernel
theorem dX13_close_46 : decode cX13_close 46 = .ok (.iaload, 1) := by decide +kernel
theorem dX13_close_47 : decode cX13_close 47 = .ok (.iconst 1, 1) := by decide +kernel
theorem dX13_close_48 : decode cX13_close 48 = .ok (.isub, 1) := by decide +kernel
theorem dX13_close_49 : decode cX13_close 49 = .ok (.iastore, 1) := by decide +kernel
theorem dX13_close_50 : decode cX13_close 50 = .ok (.iconst 0, 1) := by decide +kernel
theorem dX13_close_51 : decode cX13_close 51 = .ok (.istore_n 3, 1) := by decide +kernel
theorem dX13_close_52 : decode cX13_close 52 = .ok (.iconst 0, 1) := by decide +kernel
theorem dX13_close_53 : decode cX13_close 53 = .ok (.istore 4, 2) := by decide +kernel
theorem dX13_close_55 : decode cX13_close 55 = .ok (.iload 4, 2) := by decide +kernel
theorem dX13_close_57 : decode cX13_close 57 = .ok (.aload_n 0, 1) := by decide +kernel
theorem dX13_close_58 : decode cX13_close 58 = .ok (.getfield 188, 3) := by decide +kernel
theorem dX13_close_61 : decode cX13_close 61 = .ok (.if_icmp .ge 98, 3) := by decide +kernel
theorem dX13_close_64 : decode cX13_close 64 = .ok (.iload_n 2, 1) := by decide +kernel
theorem dX13_close_65 : decode cX13_close 65 = .ok (.iload 4, 2) := by decide +kernel
theorem dX13_close_67 : decode cX13_close 67 = .ok (.invokestatic 125, 3) := by decide +kernel
theorem dX13_close_70 : decode cX13_close 70 = .ok (.ifCond .eq 14, 3) := by decide +kernel
theorem dX13_close_73 : decode cX13_close 73 = .ok (.iinc 3 1, 3) := by decide +kernel
theorem dX13_close_76 : decode cX13_close 76 = .ok (.aload_n 0, 1) := by decide +kernel
theorem dX13_close_77 : decode cX13_close 77 = .ok (.getfield 66, 3) := by decide +kernel
theorem dX13_close_80 : decode cX13_close 80 = .ok (.iload 4, 2) := by decide +kernel
theorem dX13_close_82 : decode cX13_close 82 = .ok (.iconst 0, 1) := by decide +kernel
theorem dX13_close_83 : decode cX13_close 83 = .ok (.iastore, 1) := by decide +kernel
theorem dX13_close_84 : decode cX13_close 84 = .ok (.iconst 0, 1) := by decide +kernel
theorem dX13_close_85 : decode cX13_close 85 = .ok (.istore 5, 2) := by decide +kernel
theorem dX13_close_87 : decode cX13_close 87 = .ok (.iload 5, 2) := by decide +kernel
theorem dX13_close_89 : decode cX13_close 89 = .ok (.bipush 20, 2) := by decide +kernel
theorem dX13_close_91 : decode cX13_close 91 = .ok (.if_icmp .ge 62, 3) := by decide +kernel
theorem dX13_close_94 : decode cX13_close 94 = .ok (.aload_n 0, 1) := by decide +kernel
theorem dX13_close_95 : decode cX13_close 95 = .ok (.getfield 72, 3) := by decide +kernel
theorem dX13_close_98 : decode cX13_close 98 = .ok (.iload 4, 2) := by decide +kernel
theorem dX13_close_100 : decode cX13_close 100 = .ok (.bipush 20, 2) := by decide +kernel
theorem dX13_close_102 : decode cX13_close 102 = .ok (.imul, 1) := by decide +kernel
theorem dX13_close_103 : decode cX13_close 103 = .ok (.iload 5, 2) := by decide +kernel
theorem dX13_close_105 : decode cX13_close 105 = .ok (.iadd, 1) := by decide +kernel
theorem dX13_close_106 : decode cX13_close 106 = .ok (.iaload, 1) := by decide +kernel
theorem dX13_close_107 : decode cX13_close 107 = .ok (.istore 6, 2) := by decide +kernel
theorem dX13_close_109 : decode cX13_close 109 = .ok (.iload_n 2, 1) := by decide +kernel
theorem dX13_close_110 : decode cX13_close 110 = .ok (.iload 4, 2) := by decide +kernel
theorem dX13_close_112 : decode cX13_close 112 = .ok (.invokestatic 125, 3) := by decide +kernel
theorem dX13_close_115 : decode cX13_close 115 = .ok (.ifCond .ne 18, 3) := by decide +kernel
theorem dX13_close_118 : decode cX13_close 118 = .ok (.iload 6, 2) := by decide +kernel
theorem dX13_close_120 : decode cX13_close 120 = .ok (.iconst (-1), 1) := by decide +kernel
theorem dX13_close_121 : decode cX13_close 121 = .ok (.if_icmp .eq 26, 3) := by decide +kernel
theorem dX13_close_124 : decode cX13_close 124 = .ok (.iload_n 2, 1) := by decide +kernel
theorem dX13_close_125 : decode cX13_close 125 = .ok (.iload 6, 2) := by decide +kernel
theorem dX13_close_127 : decode cX13_close 127 = .ok (.invokestatic 125, 3) := by decide +kernel
theorem dX13_close_130 : decode cX13_close 130 = .ok (.ifCond .eq 17, 3) := by decide +kernel
theorem dX13_close_133 : decode cX13_close 133 = .ok (.aload_n 0, 1) := by decide +kernel
theorem dX13_close_134 : decode cX13_close 134 = .ok (.getfield 72, 3) := by decide +kernel
theorem dX13_close_137 : decode cX13_close 137 = .ok (.iload 4, 2) := by decide +kernel
theorem dX13_close_139 : decode cX13_close 139 = .ok (.bipush 20, 2) := by decide +kernel
theorem dX13_close_141 : decode cX13_close 141 = .ok (.imul, 1) := by decide +kernel
theorem dX13_close_142 : decode cX13_close 142 = .ok (.iload 5, 2) := by decide +kernel
theorem dX13_close_144 : decode cX13_close 144 = .ok (.iadd, 1) := by decide +kernel
theorem dX13_close_145 : decode cX13_close 145 = .ok (.iconst (-1), 1) := by decide +kernel
theorem dX13_close_146 : decode cX13_close 146 = .ok (.iastore, 1) := by decide +kernel
theorem dX13_close_147 : decode cX13_close 147 = .ok (.iinc 5 1, 3) := by decide +kernel
theorem dX13_close_150 : decode cX13_close 150 = .ok (.goto (-63), 3) := by decide +kernel
theorem dX13_close_153 : decode cX13_close 153 = .ok (.iinc 4 1, 3) := by decide +kernel
theorem dX13_close_156 : decode cX13_close 156 = .ok (.goto (-101), 3) := by decide +kernel
theorem dX13_close_159 : decode cX13_close 159 = .ok (.aload_n 0, 1) := by decide +kernel
theorem dX13_close_160 : decode cX13_close 160 = .ok (.aload_n 0, 1) := by decide +kernel
theorem dX13_close_161 : decode cX13_close 161 = .ok (.getfield 75, 3) := by decide +kernel
theorem dX13_close_164 : decode cX13_close 164 = .ok (.iload_n 2, 1) := by decide +kernel
theorem dX13_close_165 : decode cX13_close 165 = .ok (.invokestatic 237, 3) := by decide +kernel
theorem dX13_close_168 : decode cX13_close 168 = .ok (.putfield 75, 3) := by decide +kernel
theorem dX13_close_171 : decode cX13_close 171 = .ok (.aload_n 0, 1) := by decide +kernel
theorem dX13_close_172 : decode cX13_close 172 = .ok (.aload_n 0, 1) := by decide +kernel
theorem dX13_close_173 : decode cX13_close 173 = .ok (.getfield 78, 3) := by decide +kernel
theorem dX13_close_176 : decode cX13_close 176 = .ok (.iload_n 2, 1) := by decide +kernel
theorem dX13_close_177 : decode cX13_close 177 = .ok (.invokestatic 237, 3) := by decide +kernel
theorem dX13_close_180 : decode cX13_close 180 = .ok (.putfield 78, 3) := by decide +kernel
theorem dX13_close_183 : decode cX13_close 183 = .ok (.iload_n 3, 1) := by decide +kernel
theorem dX13_close_184 : decode cX13_close 184 = .ok (.ireturn, 1) := by decide +kernel
def g_X13_close : Nat → EA := (t_n 85 (t_n 41 (t_n 20 (t_n 10 (t_n 5 (t_n 1 (t_l 0 (a_aload 1 0)) (t_n 2 (t_l 1 (a_push 1 (.int 0))) (t_l 2 (a_putf 0 13 0)))) (t_n 6 (t_l 5 (a_aload 1 0)) (t_n 7 (t_l 6 (a_iload 1 1)) (t_l 7 (a_inv true 260 2 (some 13)))))) (t_n 15 (t_n 13 (t_l 10 (a_if 19 (fun x => !decide (x = 0)))) (t_n 14 (t_l 13 (a_aload 1 0)) (t_l 14 (a_push 1 (.int 1))))) (t_n 18 (t_l 15 (a_inv true 229 2 (some 13))) (t_n 19 (t_l 18 a_iret) (t_l 19 (a_aload 1 0)))))) (t_n 30 (t_n 25 (t_n 23 (t_l 20 (a_getf 13 24)) (t_n 24 (t_l 23 (a_iload 1 1)) (t_l 24 (a_ild 0)))) (t_n 28 (t_l 25 (a_if 34 (fun x => !decide (x = 0)))) (t_n 29 (t_l 28 (a_aload 1 0)) (t_l 29 (a_push 1 (.int 2)))))) (t_n 35 (t_n 33 (t_l 30 (a_inv true 229 2 (some 13))) (t_n 34 (t_l 33 a_iret) (t_l 34 (a_aload 1 0)))) (t_n 39 (t_n 36 (t_l 35 (a_iload 1 1)) (t_l 36 (a_inv true 270 2 (some 13)))) (t_n 40 (t_l 39 (a_istore 7 1 2)) (t_l 40 (a_aload 1 0))))))) (t_n 58 (t_n 49 (t_n 46 (t_n 44 (t_l 41 (a_getf 13 24)) (t_n 45 (t_l 44 (a_iload 1 1)) (t_l 45 a_dup2))) (t_n 47 (t_l 46 (a_ild 0)) (t_n 48 (t_l 47 (a_push 1 (.int 1))) (t_l 48 (a_ii 1 (fun x y => x - y)))))) (t_n 52 (t_n 50 (t_l 49 (a_ist 0)) (t_n 51 (t_l 50 (a_push 1 (.int 0))) (t_l 51 (a_istore 7 1 3)))) (t_n 55 (t_n 53 (t_l 52 (a_push 1 (.int 0))) (t_l 53 (a_istore 7 2 4))) (t_n 57 (t_l 55 (a_iload 2 4)) (t_l 57 (a_aload 1 0)))))) (t_n 73 (t_n 65 (t_n 61 (t_l 58 (a_getf 13 20)) (t_n 64 (t_l 61 (a_ic 159 (fun x y => decide (y ≤ x)))) (t_l 64 (a_iload 1 2)))) (t_n 67 (t_l 65 (a_iload 2 4)) (t_n 70 (t_l 67 (a_inv true 231 2 none)) (t_l 70 (a_if 84 (fun x => decide (x = 0))))))) (t_n 80 (t_n 76 (t_l 73 (a_iinc 7 3 1)) (t_n 77 (t_l 76 (a_aload 1 0)) (t_l 77 (a_getf 13 25)))) (t_n 83 (t_n 82 (t_l 80 (a_iload 2 4)) (t_l 82 (a_push 1 (.int 0)))) (t_n 84 (t_l 83 (a_ist 0)) (t_l 84 (a_push 1 (.int 0))))))))) (t_n 134 (t_n 107 (t_n 98 (t_n 91 (t_n 87 (t_l 85 (a_istore 7 2 5)) (t_n 89 (t_l 87 (a_iload 2 5)) (t_l 89 (a_push 2 (.int 20))))) (t_n 94 (t_l 91 (a_ic 153 (fun x y => decide (y ≤ x)))) (t_n 95 (t_l 94 (a_aload 1 0)) (t_l 95 (a_getf 13 27))))) (t_n 103 (t_n 100 (t_l 98 (a_iload 2 4)) (t_n 102 (t_l 100 (a_push 2 (.int 20))) (t_l 102 (a_ii 1 (fun x y => x * y))))) (t_n 105 (t_l 103 (a_iload 2 5)) (t_n 106 (t_l 105 (a_ii 1 (fun x y => x + y))) (t_l 106 (a_ild 0)))))) (t_n 120 (t_n 112 (t_n 109 (t_l 107 (a_istore 7 2 6)) (t_n 110 (t_l 109 (a_iload 1 2)) (t_l 110 (a_iload 2 4)))) (t_n 115 (t_l 112 (a_inv true 231 2 none)) (t_n 118 (t_l 115 (a_if 133 (fun x => !decide (x = 0)))) (t_l 118 (a_iload 2 6))))) (t_n 125 (t_n 121 (t_l 120 (a_push 1 (.int (-1)))) (t_n 124 (t_l 121 (a_ic 147 (fun x y => decide (x = y)))) (t_l 124 (a_iload 1 2)))) (t_n 130 (t_n 127 (t_l 125 (a_iload 2 6)) (t_l 127 (a_inv true 231 2 none))) (t_n 133 (t_l 130 (a_if 147 (fun x => decide (x = 0)))) (t_l 133 (a_aload 1 0))))))) (t_n 160 (t_n 145 (t_n 141 (t_n 137 (t_l 134 (a_getf 13 27)) (t_n 139 (t_l 137 (a_iload 2 4)) (t_l 139 (a_push 2 (.int 20))))) (t_n 142 (t_l 141 (a_ii 1 (fun x y => x * y))) (t_n 144 (t_l 142 (a_iload 2 5)) (t_l 144 (a_ii 1 (fun x y => x + y)))))) (t_n 150 (t_n 146 (t_l 145 (a_push 1 (.int (-1)))) (t_n 147 (t_l 146 (a_ist 0)) (t_l 147 (a_iinc 7 5 1)))) (t_n 156 (t_n 153 (t_l 150 (a_goto 87)) (t_l 153 (a_iinc 7 4 1))) (t_n 159 (t_l 156 (a_goto 55)) (t_l 159 (a_aload 1 0)))))) (t_n 172 (t_n 165 (t_n 161 (t_l 160 (a_aload 1 0)) (t_n 164 (t_l 161 (a_getf 13 28)) (t_l 164 (a_iload 1 2)))) (t_n 168 (t_l 165 (a_inv true 265 2 none)) (t_n 171 (t_l 168 (a_putf 9 13 28)) (t_l 171 (a_aload 1 0))))) (t_n 177 (t_n 173 (t_l 172 (a_aload 1 0)) (t_n 176 (t_l 173 (a_getf 13 29)) (t_l 176 (a_iload 1 2)))) (t_n 183 (t_n 180 (t_l 177 (a_inv true 265 2 none)) (t_l 180 (a_putf 9 13 29))) (t_n 184 (t_l 183 (a_iload 1 3)) (t_l 184 a_iret))))))))
set_option maxRecDepth 100000 in
theorem k_X13_close (d : Nat) : ∀ pc, ev_Ok cX13_close 7 [] RX13 lw_g lw_n lw_q vwCl false (ev_CO mt lw_g lw_n lw_q vwCl d) pc (g_X13_close pc) := (ok_t_n (ok_t_n (ok_t_n (ok_t_n (ok_t_n (ok_t_n (ok_t_l (ok_aload_n dX13_close_0 rfl)) (ok_t_n (ok_t_l (ok_iconst dX13_close_1 rfl)) (ok_t_l (ok_putfield dX13_close_2 (ci := 13) (kf := 0) rfl inGX13 (by decide) tyX13_ok nmX13 rfl w_1559 rfl)))) (ok_t_n (ok_t_l (ok_aload_n dX13_close_5 rfl)) (ok_t_n (ok_t_l (ok_iload_n dX13_close_6 rfl)) (ok_t_l (ok_inv (run_V (y := 260) (n := 1) (ci := 13) dX13_close_7 cz_260 gdG cc_260 ci_260 w_1983 cm_260 cs_260 cd_260 cl_260 rfl rfl)))))) (ok_t_n (ok_t_n (ok_t_l (ok_if_ne dX13_close_10 rfl)) (ok_t_n (ok_t_l (ok_aload_n dX13_close_13 rfl)) (ok_t_l (ok_iconst dX13_close_14 rfl)))) (ok_t_n (ok_t_l (ok_inv (run_V (y := 229) (n := 1) (ci := 13) dX13_close_15 cz_229 gdG cc_229 ci_229 w_1672 cm_229 cs_229 cd_229 cl_229 rfl rfl))) (ok_t_n (ok_t_l (ok_ireturn dX13_close_18)) (ok_t_l (ok_aload_n dX13_close_19 rfl)))))) (ok_t_n (ok_t_n (ok_t_n (ok_t_l (ok_getfield dX13_close_20 (ci := 13) (kf := 24) rfl inGX13 (by decide) w_1597)) (ok_t_n (ok_t_l (ok_iload_n dX13_close_23 rfl)) (ok_t_l (ok_iaload dX13_close_24)))) (ok_t_n (ok_t_l (ok_if_ne dX13_close_25 rfl)) (ok_t_n (ok_t_l (ok_aload_n dX13_close_28 rfl)) (ok_t_l (ok_iconst dX13_close_29 rfl))))) (ok_t_n (ok_t_n (ok_t_l (ok_inv (run_V (y := 229) (n := 1) (ci := 13) dX13_close_30 cz_229 gdG cc_229 ci_229 w_1672 cm_229 cs_229 cd_229 cl_229 rfl rfl))) (ok_t_n (ok_t_l (ok_ireturn dX13_close_33)) (ok_t_l (ok_aload_n dX13_close_34 rfl)))) (ok_t_n (ok_t_n (ok_t_l (ok_iload_n dX13_close_35 rfl)) (ok_t_l (ok_inv (run_V (y := 270) (n := 1) (ci := 13) dX13_close_36 cz_270 gdG cc_270 ci_270 w_2014 cm_270 cs_270 cd_270 cl_270 rfl rfl)))) (ok_t_n (ok_t_l (ok_istore_n dX13_close_39 rfl)) (ok_t_l (ok_aload_n dX13_close_40 rfl))))))) (ok_t_n (ok_t_n (ok_t_n (ok_t_n (ok_t_l (ok_getfield dX13_close_41 (ci := 13) (kf := 24) rfl inGX13 (by decide) w_1597)) (ok_t_n (ok_t_l (ok_iload_n dX13_close_44 rfl)) (ok_t_l (ok_dup2 dX13_close_45)))) (ok_t_n (ok_t_l (ok_iaload dX13_close_46)) (ok_t_n (ok_t_l (ok_iconst dX13_close_47 rfl)) (ok_t_l (ok_isub dX13_close_48))))) (ok_t_n (ok_t_n (ok_t_l (ok_iastore dX13_close_49)) (ok_t_n (ok_t_l (ok_iconst dX13_close_50 rfl)) (ok_t_l (ok_istore_n dX13_close_51 rfl)))) (ok_t_n (ok_t_n (ok_t_l (ok_iconst dX13_close_52 rfl)) (ok_t_l (ok_istore dX13_close_53))) (ok_t_n (ok_t_l (ok_iload dX13_close_55)) (ok_t_l (ok_aload_n dX13_close_57 rfl)))))) (ok_t_n (ok_t_n (ok_t_n (ok_t_l (ok_getfield dX13_close_58 (ci := 13) (kf := 20) rfl inGX13 (by decide) w_1593)) (ok_t_n (ok_t_l (ok_icmp_ge dX13_close_61 rfl)) (ok_t_l (ok_iload_n dX13_close_64 rfl)))) (ok_t_n (ok_t_l (ok_iload dX13_close_65)) (ok_t_n (ok_t_l (ok_inv (run_S (y := 231) (n := 2) dX13_close_67 cz_231 gdG cc_231 ci_231 w_1753 cm_231 cd_231 cl_231))) (ok_t_l (ok_if_eq dX13_close_70 rfl))))) (ok_t_n (ok_t_n (ok_t_l (ok_iinc dX13_close_73 rfl)) (ok_t_n (ok_t_l (ok_aload_n dX13_close_76 rfl)) (ok_t_l (ok_getfield dX13_close_77 (ci := 13) (kf := 25) rfl inGX13 (by decide) w_1598)))) (ok_t_n (ok_t_n (ok_t_l (ok_iload dX13_close_80)) (ok_t_l (ok_iconst dX13_close_82 rfl))) (ok_t_n (ok_t_l (ok_iastore dX13_close_83)) (ok_t_l (ok_iconst dX13_close_84 rfl)))))))) (ok_t_n (ok_t_n (ok_t_n (ok_t_n (ok_t_n (ok_t_l (ok_istore dX13_close_85)) (ok_t_n (ok_t_l (ok_iload dX13_close_87)) (ok_t_l (ok_bipush dX13_close_89 rfl)))) (ok_t_n (ok_t_l (ok_icmp_ge dX13_close_91 rfl)) (ok_t_n (ok_t_l (ok_aload_n dX13_close_94 rfl)) (ok_t_l (ok_getfield dX13_close_95 (ci := 13) (kf := 27) rfl inGX13 (by decide) w_1600))))) (ok_t_n (ok_t_n (ok_t_l (ok_iload dX13_close_98)) (ok_t_n (ok_t_l (ok_bipush dX13_close_100 rfl)) (ok_t_l (ok_imul dX13_close_102)))) (ok_t_n (ok_t_l (ok_iload dX13_close_103)) (ok_t_n (ok_t_l (ok_iadd dX13_close_105)) (ok_t_l (ok_iaload dX13_close_106)))))) (ok_t_n (ok_t_n (ok_t_n (ok_t_l (ok_istore dX13_close_107)) (ok_t_n (ok_t_l (ok_iload_n dX13_close_109 rfl)) (ok_t_l (ok_iload dX13_close_110)))) (ok_t_n (ok_t_l (ok_inv (run_S (y := 231) (n := 2) dX13_close_112 cz_231 gdG cc_231 ci_231 w_1753 cm_231 cd_231 cl_231))) (ok_t_n (ok_t_l (ok_if_ne dX13_close_115 rfl)) (ok_t_l (ok_iload dX13_close_118))))) (ok_t_n (ok_t_n (ok_t_l (ok_iconst dX13_close_120 rfl)) (ok_t_n (ok_t_l (ok_icmp_eq dX13_close_121 rfl)) (ok_t_l (ok_iload_n dX13_close_124 rfl)))) (ok_t_n (ok_t_n (ok_t_l (ok_iload dX13_close_125)) (ok_t_l (ok_inv (run_S (y := 231) (n := 2) dX13_close_127 cz_231 gdG cc_231 ci_231 w_1753 cm_231 cd_231 cl_231)))) (ok_t_n (ok_t_l (ok_if_eq dX13_close_130 rfl)) (ok_t_l (ok_aload_n dX13_close_133 rfl))))))) (ok_t_n (ok_t_n (ok_t_n (ok_t_n (ok_t_l (ok_getfield dX13_close_134 (ci := 13) (kf := 27) rfl inGX13 (by decide) w_1600)) (ok_t_n (ok_t_l (ok_iload dX13_close_137)) (ok_t_l (ok_bipush dX13_close_139 rfl)))) (ok_t_n (ok_t_l (ok_imul dX13_close_141)) (ok_t_n (ok_t_l (ok_iload dX13_close_142)) (ok_t_l (ok_iadd dX13_close_144))))) (ok_t_n (ok_t_n (ok_t_l (ok_iconst dX13_close_145 rfl)) (ok_t_n (ok_t_l (ok_iastore dX13_close_146)) (ok_t_l (ok_iinc dX13_close_147 rfl)))) (ok_t_n (ok_t_n (ok_t_l (ok_goto dX13_close_150 rfl)) (ok_t_l (ok_iinc dX13_close_153 rfl))) (ok_t_n (ok_t_l (ok_goto dX13_close_156 rfl)) (ok_t_l (ok_aload_n dX13_close_159 rfl)))))) (ok_t_n (ok_t_n (ok_t_n (ok_t_l (ok_aload_n dX13_close_160 rfl)) (ok_t_n (ok_t_l (ok_getfield dX13_close_161 (ci := 13) (kf := 28) rfl inGX13 (by decide) w_1601)) (ok_t_l (ok_iload_n dX13_close_164 rfl)))) (ok_t_n (ok_t_l (ok_inv (run_S (y := 265) (n := 2) dX13_close_165 cz_265 gdG cc_265 ci_265 w_2018 cm_265 cd_265 cl_265))) (ok_t_n (ok_t_l (ok_putfield dX13_close_168 (ci := 13) (kf := 28) rfl inGX13 (by decide) tyX13_ok nmX13 rfl w_1601 rfl)) (ok_t_l (ok_aload_n dX13_close_171 rfl))))) (ok_t_n (ok_t_n (ok_t_l (ok_aload_n dX13_close_172 rfl)) (ok_t_n (ok_t_l (ok_getfield dX13_close_173 (ci := 13) (kf := 29) rfl inGX13 (by decide) w_1602)) (ok_t_l (ok_iload_n dX13_close_176 rfl)))) (ok_t_n (ok_t_n (ok_t_l (ok_inv (run_S (y := 265) (n := 2) dX13_close_177 cz_265 gdG cc_265 ci_265 w_2018 cm_265 cd_265 cl_265))) (ok_t_l (ok_putfield dX13_close_180 (ci := 13) (kf := 29) rfl inGX13 (by decide) tyX13_ok nmX13 rfl w_1602 rfl))) (ok_t_n (ok_t_l (ok_iload_n dX13_close_183 rfl)) (ok_t_l (ok_ireturn dX13_close_184)))))))))
theorem dX13_find_0 : decode cX13_find 0 = .ok (.aload_n 0, 1) := by decide +kernel
theorem dX13_find_1 : decode cX13_find 1 = .ok (.getfield 75, 3) := by decide +kernel
theorem dX13_find_4 : decode cX13_find 4 = .ok (.astore_n 3, 1) := by decide +kernel
theorem dX13_find_5 : decode cX13_find 5 = .ok (.aload_n 3, 1) := by decide +kernel
theorem dX13_find_6 : decode cX13_find 6 = .ok (.arraylength, 1) := by decide +kernel
theorem dX13_find_7 : decode cX13_find 7 = .ok (.istore 4, 2) := by decide +kernel
theorem dX13_find_9 : decode cX13_find 9 = .ok (.iconst 0, 1) := by decide +kernel
theorem dX13_find_10 : decode cX13_find 10 = .ok (.istore 5, 2) := by decide +kernel
theorem dX13_find_12 : decode cX13_find 12 = .ok (.iload 5, 2) := by decide +kernel
theorem dX13_find_14 : decode cX13_find 14 = .ok (.iload 4, 2) := by decide +kernel
theorem dX13_find_16 : decode cX13_find 16 = .ok (.if_icmp .ge 34, 3) := by decide +kernel
theorem dX13_find_19 : decode cX13_find 19 = .ok (.aload_n 3, 1) := by decide +kernel
theorem dX13_find_20 : decode cX13_find 20 = .ok (.iload 5, 2) := by decide +kernel
theorem dX13_find_22 : decode cX13_find 22 = .ok (.iaload, 1) := by decide +kernel
theorem dX13_find_23 : decode cX13_find 23 = .ok (.istore 6, 2) := by decide +kernel
theorem dX13_find_25 : decode cX13_find 25 = .ok (.aload_n 0, 1) := by decide +kernel
theorem dX13_find_26 : decode cX13_find 26 = .ok (.getfield 69, 3) := by decide +kernel
theorem dX13_find_29 : decode cX13_find 29 = .ok (.iload 6, 2) := by decide +kernel
theorem dX13_find_31 : decode cX13_find 31 = .ok (.bipush 20, 2) := by decide +kernel
theorem dX13_find_33 : decode cX13_find 33 = .ok (.imul, 1) := by decide +kernel
theorem dX13_find_34 : decode cX13_find 34 = .ok (.iload_n 2, 1) := by decide +kernel
theorem dX13_find_35 : decode cX13_find 35 = .ok (.iadd, 1) := by decide +kernel
theorem dX13_find_36 : decode cX13_find 36 = .ok (.iaload, 1) := by decide +kernel
theorem dX13_find_37 : decode cX13_find 37 = .ok (.iconst (-1), 1) := by decide +kernel
theorem dX13_find_38 : decode cX13_find 38 = .ok (.if_icmp .eq 6, 3) := by decide +kernel
theorem dX13_find_41 : decode cX13_find 41 = .ok (.iload 6, 2) := by decide +kernel
theorem dX13_find_43 : decode cX13_find 43 = .ok (.ireturn, 1) := by decide +kernel
theorem dX13_find_44 : decode cX13_find 44 = .ok (.iinc 5 1, 3) := by decide +kernel
theorem dX13_find_47 : decode cX13_find 47 = .ok (.goto (-35), 3) := by decide +kernel
theorem dX13_find_50 : decode cX13_find 50 = .ok (.aload_n 0, 1) := by decide +kernel
theorem dX13_find_51 : decode cX13_find 51 = .ok (.iload_n 1, 1) := by decide +kernel
theorem dX13_find_52 : decode cX13_find 52 = .ok (.invokevirtual 226, 3) := by decide +kernel
theorem dX13_find_55 : decode cX13_find 55 = .ok (.astore_n 3, 1) := by decide +kernel
theorem dX13_find_56 : decode cX13_find 56 = .ok (.aload_n 3, 1) := by decide +kernel
theorem dX13_find_57 : decode cX13_find 57 = .ok (.arraylength, 1) := by decide +kernel
theorem dX13_find_58 : decode cX13_find 58 = .ok (.istore 4, 2) := by decide +kernel
theorem dX13_find_60 : decode cX13_find 60 = .ok (.iconst 0, 1) := by decide +kernel
theorem dX13_find_61 : decode cX13_find 61 = .ok (.istore 5, 2) := by decide +kernel
theorem dX13_find_63 : decode cX13_find 63 = .ok (.iload 5, 2) := by decide +kernel
theorem dX13_find_65 : decode cX13_find 65 = .ok (.iload 4, 2) := by decide +kernel
theorem dX13_find_67 : decode cX13_find 67 = .ok (.if_icmp .ge 43, 3) := by decide +kernel
theorem dX13_find_70 : decode cX13_find 70 = .ok (.aload_n 3, 1) := by decide +kernel
theorem dX13_find_71 : decode cX13_find 71 = .ok (.iload 5, 2) := by decide +kernel
theorem dX13_find_73 : decode cX13_find 73 = .ok (.iaload, 1) := by decide +kernel
theorem dX13_find_74 : decode cX13_find 74 = .ok (.istore 6, 2) := by decide +kernel
theorem dX13_find_76 : decode cX13_find 76 = .ok (.aload_n 0, 1) := by decide +kernel
theorem dX13_find_77 : decode cX13_find 77 = .ok (.iload 6, 2) := by decide +kernel
theorem dX13_find_79 : decode cX13_find 79 = .ok (.invokevirtual 216, 3) := by decide +kernel
theorem dX13_find_82 : decode cX13_find 82 = .ok (.ifCond .eq 22, 3) := by decide +kernel
theorem dX13_find_85 : decode cX13_find 85 = .ok (.aload_n 0, 1) := by decide +kernel
theorem dX13_find_86 : decode cX13_find 86 = .ok (.getfield 69, 3) := by decide +kernel
theorem dX13_find_89 : decode cX13_find 89 = .ok (.iload 6, 2) := by decide +kernel
theorem dX13_find_91 : decode cX13_find 91 = .ok (.bipush 20, 2) := by decide +kernel
theorem dX13_find_93 : decode cX13_find 93 = .ok (.imul, 1) := by decide +kernel
theorem dX13_find_94 : decode cX13_find 94 = .ok (.iload_n 2, 1) := by decide +kernel
theorem dX13_find_95 : decode cX13_find 95 = .ok (.iadd, 1) := by decide +kernel
theorem dX13_find_96 : decode cX13_find 96 = .ok (.iaload, 1) := by decide +kernel
theorem dX13_find_97 : decode cX13_find 97 = .ok (.iconst (-1), 1) := by decide +kernel
theorem dX13_find_98 : decode cX13_find 98 = .ok (.if_icmp .eq 6, 3) := by decide +kernel
theorem dX13_find_101 : decode cX13_find 101 = .ok (.iload 6, 2) := by decide +kernel
theorem dX13_find_103 : decode cX13_find 103 = .ok (.ireturn, 1) := by decide +kernel
theorem dX13_find_104 : decode cX13_find 104 = .ok (.iinc 5 1, 3) := by decide +kernel
theorem dX13_find_107 : decode cX13_find 107 = .ok (.goto (-44), 3) := by decide +kernel
theorem dX13_find_110 : decode cX13_find 110 = .ok (.iconst (-1), 1) := by decide +kernel
theorem dX13_find_111 : decode cX13_find 111 = .ok (.ireturn, 1) := by decide +kernel
def g_X13_find : Nat → EA := (t_n 55 (t_n 26 (t_n 12 (t_n 6 (t_n 4 (t_n 1 (t_l 0 (a_aload 1 0)) (t_l 1 (a_getf 13 28))) (t_n 5 (t_l 4 (a_astore 7 1 3)) (t_l 5 (a_aload 1 3)))) (t_n 9 (t_n 7 (t_l 6 a_alen) (t_l 7 (a_istore 7 2 4))) (t_n 10 (t_l 9 (a_push 1 (.int 0))) (t_l 10 (a_istore 7 2 5))))) (t_n 20 (t_n 16 (t_n 14 (t_l 12 (a_iload 2 5)) (t_l 14 (a_iload 2 4))) (t_n 19 (t_l 16 (a_ic 50 (fun x y => decide (y ≤ x)))) (t_l 19 (a_aload 1 3)))) (t_n 23 (t_n 22 (t_l 20 (a_iload 2 5)) (t_l 22 (a_ild 0))) (t_n 25 (t_l 23 (a_istore 7 2 6)) (t_l 25 (a_aload 1 0)))))) (t_n 38 (t_n 34 (t_n 31 (t_n 29 (t_l 26 (a_getf 13 26)) (t_l 29 (a_iload 2 6))) (t_n 33 (t_l 31 (a_push 2 (.int 20))) (t_l 33 (a_ii 1 (fun x y => x * y))))) (t_n 36 (t_n 35 (t_l 34 (a_iload 1 2)) (t_l 35 (a_ii 1 (fun x y => x + y)))) (t_n 37 (t_l 36 (a_ild 0)) (t_l 37 (a_push 1 (.int (-1))))))) (t_n 47 (t_n 43 (t_n 41 (t_l 38 (a_ic 44 (fun x y => decide (x = y)))) (t_l 41 (a_iload 2 6))) (t_n 44 (t_l 43 a_iret) (t_l 44 (a_iinc 7 5 1)))) (t_n 51 (t_n 50 (t_l 47 (a_goto 12)) (t_l 50 (a_aload 1 0))) (t_n 52 (t_l 51 (a_iload 1 1)) (t_l 52 (a_inv true 266 2 (some 13)))))))) (t_n 82 (t_n 67 (t_n 60 (t_n 57 (t_n 56 (t_l 55 (a_astore 7 1 3)) (t_l 56 (a_aload 1 3))) (t_n 58 (t_l 57 a_alen) (t_l 58 (a_istore 7 2 4)))) (t_n 63 (t_n 61 (t_l 60 (a_push 1 (.int 0))) (t_l 61 (a_istore 7 2 5))) (t_n 65 (t_l 63 (a_iload 2 5)) (t_l 65 (a_iload 2 4))))) (t_n 74 (t_n 71 (t_n 70 (t_l 67 (a_ic 110 (fun x y => decide (y ≤ x)))) (t_l 70 (a_aload 1 3))) (t_n 73 (t_l 71 (a_iload 2 5)) (t_l 73 (a_ild 0)))) (t_n 77 (t_n 76 (t_l 74 (a_istore 7 2 6)) (t_l 76 (a_aload 1 0))) (t_n 79 (t_l 77 (a_iload 2 6)) (t_l 79 (a_inv true 261 2 (some 13))))))) (t_n 96 (t_n 91 (t_n 86 (t_n 85 (t_l 82 (a_if 104 (fun x => decide (x = 0)))) (t_l 85 (a_aload 1 0))) (t_n 89 (t_l 86 (a_getf 13 26)) (t_l 89 (a_iload 2 6)))) (t_n 94 (t_n 93 (t_l 91 (a_push 2 (.int 20))) (t_l 93 (a_ii 1 (fun x y => x * y)))) (t_n 95 (t_l 94 (a_iload 1 2)) (t_l 95 (a_ii 1 (fun x y => x + y)))))) (t_n 103 (t_n 98 (t_n 97 (t_l 96 (a_ild 0)) (t_l 97 (a_push 1 (.int (-1))))) (t_n 101 (t_l 98 (a_ic 104 (fun x y => decide (x = y)))) (t_l 101 (a_iload 2 6)))) (t_n 107 (t_n 104 (t_l 103 a_iret) (t_l 104 (a_iinc 7 5 1))) (t_n 110 (t_l 107 (a_goto 63)) (t_n 111 (t_l 110 (a_push 1 (.int (-1)))) (t_l 111 a_iret))))))))
set_option maxRecDepth 100000 in
theorem k_X13_find (d : Nat) : ∀ pc, ev_Ok cX13_find 7 [] RX13 lw_g lw_n lw_q vwCl false (ev_CO mt lw_g lw_n lw_q vwCl d) pc (g_X13_find pc) := (ok_t_n (ok_t_n (ok_t_n (ok_t_n (ok_t_n (ok_t_n (ok_t_l (ok_aload_n dX13_find_0 rfl)) (ok_t_l (ok_getfield dX13_find_1 (ci := 13) (kf := 28) rfl inGX13 (by decide) w_1601))) (ok_t_n (ok_t_l (ok_astore_n dX13_find_4 rfl)) (ok_t_l (ok_aload_n dX13_find_5 rfl)))) (ok_t_n (ok_t_n (ok_t_l (ok_arraylength dX13_find_6)) (ok_t_l (ok_istore dX13_find_7))) (ok_t_n (ok_t_l (ok_iconst dX13_find_9 rfl)) (ok_t_l (ok_istore dX13_find_10))))) (ok_t_n (ok_t_n (ok_t_n (ok_t_l (ok_iload dX13_find_12)) (ok_t_l (ok_iload dX13_find_14))) (ok_t_n (ok_t_l (ok_icmp_ge dX13_find_16 rfl)) (ok_t_l (ok_aload_n dX13_find_19 rfl)))) (ok_t_n (ok_t_n (ok_t_l (ok_iload dX13_find_20)) (ok_t_l (ok_iaload dX13_find_22))) (ok_t_n (ok_t_l (ok_istore dX13_find_23)) (ok_t_l (ok_aload_n dX13_find_25 rfl)))))) (ok_t_n (ok_t_n (ok_t_n (ok_t_n (ok_t_l (ok_getfield dX13_find_26 (ci := 13) (kf := 26) rfl inGX13 (by decide) w_1599)) (ok_t_l (ok_iload dX13_find_29))) (ok_t_n (ok_t_l (ok_bipush dX13_find_31 rfl)) (ok_t_l (ok_imul dX13_find_33)))) (ok_t_n (ok_t_n (ok_t_l (ok_iload_n dX13_find_34 rfl)) (ok_t_l (ok_iadd dX13_find_35))) (ok_t_n (ok_t_l (ok_iaload dX13_find_36)) (ok_t_l (ok_iconst dX13_find_37 rfl))))) (ok_t_n (ok_t_n (ok_t_n (ok_t_l (ok_icmp_eq dX13_find_38 rfl)) (ok_t_l (ok_iload dX13_find_41))) (ok_t_n (ok_t_l (ok_ireturn dX13_find_43)) (ok_t_l (ok_iinc dX13_find_44 rfl)))) (ok_t_n (ok_t_n (ok_t_l (ok_goto dX13_find_47 rfl)) (ok_t_l (ok_aload_n dX13_find_50 rfl))) (ok_t_n (ok_t_l (ok_iload_n dX13_find_51 rfl)) (ok_t_l (ok_inv (run_V (y := 266) (n := 1) (ci := 13) dX13_find_52 cz_266 gdG cc_266 ci_266 w_1987 cm_266 cs_266 cd_266 cl_266 rfl rfl)))))))) (ok_t_n (ok_t_n (ok_t_n (ok_t_n (ok_t_n (ok_t_l (ok_astore_n dX13_find_55 rfl)) (ok_t_l (ok_aload_n dX13_find_56 rfl))) (ok_t_n (ok_t_l (ok_arraylength dX13_find_57)) (ok_t_l (ok_istore dX13_find_58)))) (ok_t_n (ok_t_n (ok_t_l (ok_iconst dX13_find_60 rfl)) (ok_t_l (ok_istore dX13_find_61))) (ok_t_n (ok_t_l (ok_iload dX13_find_63)) (ok_t_l (ok_iload dX13_find_65))))) (ok_t_n (ok_t_n (ok_t_n (ok_t_l (ok_icmp_ge dX13_find_67 rfl)) (ok_t_l (ok_aload_n dX13_find_70 rfl))) (ok_t_n (ok_t_l (ok_iload dX13_find_71)) (ok_t_l (ok_iaload dX13_find_73)))) (ok_t_n (ok_t_n (ok_t_l (ok_istore dX13_find_74)) (ok_t_l (ok_aload_n dX13_find_76 rfl))) (ok_t_n (ok_t_l (ok_iload dX13_find_77)) (ok_t_l (ok_inv (run_V (y := 261) (n := 1) (ci := 13) dX13_find_79 cz_261 gdG cc_261 ci_261 w_1998 cm_261 cs_261 cd_261 cl_261 rfl rfl))))))) (ok_t_n (ok_t_n (ok_t_n (ok_t_n (ok_t_l (ok_if_eq dX13_find_82 rfl)) (ok_t_l (ok_aload_n dX13_find_85 rfl))) (ok_t_n (ok_t_l (ok_getfield dX13_find_86 (ci := 13) (kf := 26) rfl inGX13 (by decide) w_1599)) (ok_t_l (ok_iload dX13_find_89)))) (ok_t_n (ok_t_n (ok_t_l (ok_bipush dX13_find_91 rfl)) (ok_t_l (ok_imul dX13_find_93))) (ok_t_n (ok_t_l (ok_iload_n dX13_find_94 rfl)) (ok_t_l (ok_iadd dX13_find_95))))) (ok_t_n (ok_t_n (ok_t_n (ok_t_l (ok_iaload dX13_find_96)) (ok_t_l (ok_iconst dX13_find_97 rfl))) (ok_t_n (ok_t_l (ok_icmp_eq dX13_find_98 rfl)) (ok_t_l (ok_iload dX13_find_101)))) (ok_t_n (ok_t_n (ok_t_l (ok_ireturn dX13_find_103)) (ok_t_l (ok_iinc dX13_find_104 rfl))) (ok_t_n (ok_t_l (ok_goto dX13_find_107 rfl)) (ok_t_n (ok_t_l (ok_iconst dX13_find_110 rfl)) (ok_t_l (ok_ireturn dX13_find_111)))))))))
theorem dX13_canCall_0 : decode cX13_canCall 0 = .ok (.aload_n 0, 1) := by decide +kernel
theorem dX13_canCall_1 : decode cX13_canCall 1 = .ok (.iload_n 1, 1) := by decide +kernel
theorem dX13_canCall_2 : decode cX13_canCall 2 = .ok (.invokevirtual 216, 3) := by decide +kernel
theorem dX13_canCall_5 : decode cX13_canCall 5 = .ok (.ifCond .eq 20, 3) := by decide +kernel
theorem dX13_canCall_8 : decode cX13_canCall 8 = .ok (.aload_n 0, 1) := by decide +kernel
theorem dX13_canCall_9 : decode cX13_canCall 9 = .ok (.getfield 60, 3) := by decide +kernel
theorem dX13_canCall_12 : decode cX13_canCall 12 = .ok (.iload_n 1, 1) := by decide +kernel
theorem dX13_canCall_13 : decode cX13_canCall 13 = .ok (.iaload, 1) := by decide +kernel
theorem dX13_canCall_14 : decode cX13_canCall 14 = .ok (.iload_n 2, 1) := by decide +kernel
theorem dX13_canCall_15 : decode cX13_canCall 15 = .ok (.invokestatic 125, 3) := by decide +kernel
theorem dX13_canCall_18 : decode cX13_canCall 18 = .ok (.ifCond .eq 7, 3) := by decide +kernel
theorem dX13_canCall_21 : decode cX13_canCall 21 = .ok (.iconst 1, 1) := by decide +kernel
theorem dX13_canCall_22 : decode cX13_canCall 22 = .ok (.goto 4, 3) := by decide +kernel
theorem dX13_canCall_25 : decode cX13_canCall 25 = .ok (.iconst 0, 1) := by decide +kernel
theorem dX13_canCall_26 : decode cX13_canCall 26 = .ok (.ireturn, 1) := by decide +kernel
def g_X13_canCall : Nat → EA := (t_n 13 (t_n 5 (t_n 1 (t_l 0 (a_aload 1 0)) (t_n 2 (t_l 1 (a_iload 1 1)) (t_l 2 (a_inv true 261 2 (some 13))))) (t_n 9 (t_n 8 (t_l 5 (a_if 25 (fun x => decide (x = 0)))) (t_l 8 (a_aload 1 0))) (t_n 12 (t_l 9 (a_getf 13 23)) (t_l 12 (a_iload 1 1))))) (t_n 21 (t_n 15 (t_n 14 (t_l 13 (a_ild 0)) (t_l 14 (a_iload 1 2))) (t_n 18 (t_l 15 (a_inv true 231 2 none)) (t_l 18 (a_if 25 (fun x => decide (x = 0)))))) (t_n 25 (t_n 22 (t_l 21 (a_push 1 (.int 1))) (t_l 22 (a_goto 26))) (t_n 26 (t_l 25 (a_push 1 (.int 0))) (t_l 26 a_iret)))))
set_option maxRecDepth 100000 in
theorem k_X13_canCall (d : Nat) : ∀ pc, ev_Ok cX13_canCall 3 [] RX13 lw_g lw_n lw_q vwCl false (ev_CO mt lw_g lw_n lw_q vwCl d) pc (g_X13_canCall pc) := (ok_t_n (ok_t_n (ok_t_n (ok_t_l (ok_aload_n dX13_canCall_0 rfl)) (ok_t_n (ok_t_l (ok_iload_n dX13_canCall_1 rfl)) (ok_t_l (ok_inv (run_V (y := 261) (n := 1) (ci := 13) dX13_canCall_2 cz_261 gdG cc_261 ci_261 w_1998 cm_261 cs_261 cd_261 cl_261 rfl rfl))))) (ok_t_n (ok_t_n (ok_t_l (ok_if_eq dX13_canCall_5 rfl)) (ok_t_l (ok_aload_n dX13_canCall_8 rfl))) (ok_t_n (ok_t_l (ok_getfield dX13_canCall_9 (ci := 13) (kf := 23) rfl inGX13 (by decide) w_1596)) (ok_t_l (ok_iload_n dX13_canCall_12 rfl))))) (ok_t_n (ok_t_n (ok_t_n (ok_t_l (ok_iaload dX13_canCall_13)) (ok_t_l (ok_iload_n dX13_canCall_14 rfl))) (ok_t_n (ok_t_l (ok_inv (run_S (y := 231) (n := 2) dX13_canCall_15 cz_231 gdG cc_231 ci_231 w_1753 cm_231 cd_231 cl_231))) (ok_t_l (ok_if_eq dX13_canCall_18 rfl)))) (ok_t_n (ok_t_n (ok_t_l (ok_iconst dX13_canCall_21 rfl)) (ok_t_l (ok_goto dX13_canCall_22 rfl))) (ok_t_n (ok_t_l (ok_iconst dX13_canCall_25 rfl)) (ok_t_l (ok_ireturn dX13_canCall_26))))))
theorem dX13_call_0 : decode cX13_call 0 = .ok (.aload_n 0, 1) := by decide +kernel
theorem dX13_call_1 : decode cX13_call 1 = .ok (.iconst 0, 1) := by decide +kernel
theorem dX13_call_2 : decode cX13_call 2 = .ok (.putfield 81, 3) := by decide +kernel
theorem dX13_call_5 : decode cX13_call 5 = .ok (.aload_n 0, 1) := by decide +kernel
theorem dX13_call_6 : decode cX13_call 6 = .ok (.iload_n 1, 1) := by decide +kernel
theorem dX13_call_7 : decode cX13_call 7 = .ok (.invokevirtual 223, 3) := by decide +kernel
theorem dX13_call_10 : decode cX13_call 10 = .ok (.ifCond .ne 9, 3) := by decide +kernel
theorem dX13_call_13 : decode cX13_call 13 = .ok (.aload_n 0, 1) := by decide +kernel
theorem dX13_call_14 : decode cX13_call 14 = .ok (.iconst 1, 1) := by decide +kernel
theorem dX13_call_15 : decode cX13_call 15 = .ok (.invokevirtual 94, 3) := by decide +kernel
theorem dX13_call_18 : decode cX13_call 18 = .ok (.ireturn, 1) := by decide +kernel
theorem dX13_call_19 : decode cX13_call 19 = .ok (.iload_n 2, 1) := by decide +kernel
theorem dX13_call_20 : decode cX13_call 20 = .ok (.invokestatic 112, 3) := by decide +kernel
theorem dX13_call_23 : decode cX13_call 23 = .ok (.ifCond .ne 9, 3) := by decide +kernel
theorem dX13_call_26 : decode cX13_call 26 = .ok (.aload_n 0, 1) := by decide +kernel
theorem dX13_call_27 : decode cX13_call 27 = .ok (.iconst 2, 1) := by decide +kernel
theorem dX13_call_28 : decode cX13_call 28 = .ok (.invokevirtual 94, 3) := by decide +kernel
theorem dX13_call_31 : decode cX13_call 31 = .ok (.ireturn, 1) := by decide +kernel
theorem dX13_call_32 : decode cX13_call 32 = .ok (.aload_n 0, 1) := by decide +kernel
theorem dX13_call_33 : decode cX13_call 33 = .ok (.iload_n 1, 1) := by decide +kernel
theorem dX13_call_34 : decode cX13_call 34 = .ok (.iload_n 2, 1) := by decide +kernel
theorem dX13_call_35 : decode cX13_call 35 = .ok (.invokevirtual 240, 3) := by decide +kernel
theorem dX13_call_38 : decode cX13_call 38 = .ok (.ifCond .ne 9, 3) := by decide +kernel
theorem dX13_call_41 : decode cX13_call 41 = .ok (.aload_n 0, 1) := by decide +kernel
theorem dX13_call_42 : decode cX13_call 42 = .ok (.iconst 3, 1) := by decide +kernel
theorem dX13_call_43 : decode cX13_call 43 = .ok (.invokevirtual 94, 3) := by decide +kernel
theorem dX13_call_46 : decode cX13_call 46 = .ok (.ireturn, 1) := by decide +kernel
theorem dX13_call_47 : decode cX13_call 47 = .ok (.aload_n 0, 1) := by decide +kernel
theorem dX13_call_48 : decode cX13_call 48 = .ok (.getfield 72, 3) := by decide +kernel
theorem dX13_call_51 : decode cX13_call 51 = .ok (.iload_n 1, 1) := by decide +kernel
theorem dX13_call_52 : decode cX13_call 52 = .ok (.bipush 20, 2) := by decide +kernel
theorem dX13_call_54 : decode cX13_call 54 = .ok (.imul, 1) := by decide +kernel
theorem dX13_call_55 : decode cX13_call 55 = .ok (.iload_n 2, 1) := by decide +kernel
theorem dX13_call_56 : decode cX13_call 56 = .ok (.iadd, 1) := by decide +kernel
theorem dX13_call_57 : decode cX13_call 57 = .ok (.iaload, 1) := by decide +kernel
theorem dX13_call_58 : decode cX13_call 58 = .ok (.iconst (-1), 1) := by decide +kernel
theorem dX13_call_59 : decode cX13_call 59 = .ok (.if_icmp .ne 20, 3) := by decide +kernel
theorem dX13_call_62 : decode cX13_call 62 = .ok (.aload_n 0, 1) := by decide +kernel
theorem dX13_call_63 : decode cX13_call 63 = .ok (.getfield 72, 3) := by decide +kernel
theorem dX13_call_66 : decode cX13_call 66 = .ok (.iload_n 1, 1) := by decide +kernel
theorem dX13_call_67 : decode cX13_call 67 = .ok (.bipush 20, 2) := by decide +kernel
theorem dX13_call_69 : decode cX13_call 69 = .ok (.imul, 1) := by decide +kernel
theorem dX13_call_70 : decode cX13_call 70 = .ok (.iload_n 2, 1) := by decide +kernel
theorem dX13_call_71 : decode cX13_call 71 = .ok (.iadd, 1) := by decide +kernel
theorem dX13_call_72 : decode cX13_call 72 = .ok (.aload_n 0, 1) := by decide +kernel
theorem dX13_call_73 : decode cX13_call 73 = .ok (.iload_n 1, 1) := by decide +kernel
theorem dX13_call_74 : decode cX13_call 74 = .ok (.iload_n 2, 1) := by decide +kernel
theorem dX13_call_75 : decode cX13_call 75 = .ok (.invokevirtual 243, 3) := by decide +kernel
theorem dX13_call_78 : decode cX13_call 78 = .ok (.iastore, 1) := by decide +kernel
theorem dX13_call_79 : decode cX13_call 79 = .ok (.aload_n 0, 1) := by decide +kernel
theorem dX13_call_80 : decode cX13_call 80 = .ok (.getfield 72, 3) := by decide +kernel
theorem dX13_call_83 : decode cX13_call 83 = .ok (.iload_n 1, 1) := by decide +kernel
theorem dX13_call_84 : decode cX13_call 84 = .ok (.bipush 20, 2) := by decide +kernel
theorem dX13_call_86 : decode cX13_call 86 = .ok (.imul, 1) := by decide +kernel
theorem dX13_call_87 : decode cX13_call 87 = .ok (.iload_n 2, 1) := by decide +kernel
theorem dX13_call_88 : decode cX13_call 88 = .ok (.iadd, 1) := by decide +kernel
theorem dX13_call_89 : decode cX13_call 89 = .ok (.iaload, 1) := by decide +kernel
theorem dX13_call_90 : decode cX13_call 90 = .ok (.ireturn, 1) := by decide +kernel
def g_X13_call : Nat → EA := (t_n 51 (t_n 26 (t_n 13 (t_n 5 (t_n 1 (t_l 0 (a_aload 1 0)) (t_n 2 (t_l 1 (a_push 1 (.int 0))) (t_l 2 (a_putf 0 13 0)))) (t_n 7 (t_n 6 (t_l 5 (a_aload 1 0)) (t_l 6 (a_iload 1 1))) (t_n 10 (t_l 7 (a_inv true 260 2 (some 13))) (t_l 10 (a_if 19 (fun x => !decide (x = 0))))))) (t_n 18 (t_n 14 (t_l 13 (a_aload 1 0)) (t_n 15 (t_l 14 (a_push 1 (.int 1))) (t_l 15 (a_inv true 229 2 (some 13))))) (t_n 20 (t_n 19 (t_l 18 a_iret) (t_l 19 (a_iload 1 2))) (t_n 23 (t_l 20 (a_inv true 235 1 none)) (t_l 23 (a_if 32 (fun x => !decide (x = 0)))))))) (t_n 35 (t_n 31 (t_n 27 (t_l 26 (a_aload 1 0)) (t_n 28 (t_l 27 (a_push 1 (.int 2))) (t_l 28 (a_inv true 229 2 (some 13))))) (t_n 33 (t_n 32 (t_l 31 a_iret) (t_l 32 (a_aload 1 0))) (t_n 34 (t_l 33 (a_iload 1 1)) (t_l 34 (a_iload 1 2))))) (t_n 43 (t_n 41 (t_n 38 (t_l 35 (a_inv true 273 3 (some 13))) (t_l 38 (a_if 47 (fun x => !decide (x = 0))))) (t_n 42 (t_l 41 (a_aload 1 0)) (t_l 42 (a_push 1 (.int 3))))) (t_n 47 (t_n 46 (t_l 43 (a_inv true 229 2 (some 13))) (t_l 46 a_iret)) (t_n 48 (t_l 47 (a_aload 1 0)) (t_l 48 (a_getf 13 27))))))) (t_n 71 (t_n 59 (t_n 55 (t_n 52 (t_l 51 (a_iload 1 1)) (t_n 54 (t_l 52 (a_push 2 (.int 20))) (t_l 54 (a_ii 1 (fun x y => x * y))))) (t_n 57 (t_n 56 (t_l 55 (a_iload 1 2)) (t_l 56 (a_ii 1 (fun x y => x + y)))) (t_n 58 (t_l 57 (a_ild 0)) (t_l 58 (a_push 1 (.int (-1))))))) (t_n 66 (t_n 62 (t_l 59 (a_ic 79 (fun x y => !decide (x = y)))) (t_n 63 (t_l 62 (a_aload 1 0)) (t_l 63 (a_getf 13 27)))) (t_n 69 (t_n 67 (t_l 66 (a_iload 1 1)) (t_l 67 (a_push 2 (.int 20)))) (t_n 70 (t_l 69 (a_ii 1 (fun x y => x * y))) (t_l 70 (a_iload 1 2)))))) (t_n 80 (t_n 74 (t_n 72 (t_l 71 (a_ii 1 (fun x y => x + y))) (t_n 73 (t_l 72 (a_aload 1 0)) (t_l 73 (a_iload 1 1)))) (t_n 78 (t_n 75 (t_l 74 (a_iload 1 2)) (t_l 75 (a_inv true 272 3 (some 13)))) (t_n 79 (t_l 78 (a_ist 0)) (t_l 79 (a_aload 1 0))))) (t_n 87 (t_n 84 (t_n 83 (t_l 80 (a_getf 13 27)) (t_l 83 (a_iload 1 1))) (t_n 86 (t_l 84 (a_push 2 (.int 20))) (t_l 86 (a_ii 1 (fun x y => x * y))))) (t_n 89 (t_n 88 (t_l 87 (a_iload 1 2)) (t_l 88 (a_ii 1 (fun x y => x + y)))) (t_n 90 (t_l 89 (a_ild 0)) (t_l 90 a_iret)))))))
set_option maxRecDepth 100000 in
theorem k_X13_call (d : Nat) : ∀ pc, ev_Ok cX13_call 3 [] RX13 lw_g lw_n lw_q vwCl false (ev_CO mt lw_g lw_n lw_q vwCl d) pc (g_X13_call pc) := (ok_t_n (ok_t_n (ok_t_n (ok_t_n (ok_t_n (ok_t_l (ok_aload_n dX13_call_0 rfl)) (ok_t_n (ok_t_l (ok_iconst dX13_call_1 rfl)) (ok_t_l (ok_putfield dX13_call_2 (ci := 13) (kf := 0) rfl inGX13 (by decide) tyX13_ok nmX13 rfl w_1559 rfl)))) (ok_t_n (ok_t_n (ok_t_l (ok_aload_n dX13_call_5 rfl)) (ok_t_l (ok_iload_n dX13_call_6 rfl))) (ok_t_n (ok_t_l (ok_inv (run_V (y := 260) (n := 1) (ci := 13) dX13_call_7 cz_260 gdG cc_260 ci_260 w_1983 cm_260 cs_260 cd_260 cl_260 rfl rfl))) (ok_t_l (ok_if_ne dX13_call_10 rfl))))) (ok_t_n (ok_t_n (ok_t_l (ok_aload_n dX13_call_13 rfl)) (ok_t_n (ok_t_l (ok_iconst dX13_call_14 rfl)) (ok_t_l (ok_inv (run_V (y := 229) (n := 1) (ci := 13) dX13_call_15 cz_229 gdG cc_229 ci_229 w_1672 cm_229 cs_229 cd_229 cl_229 rfl rfl))))) (ok_t_n (ok_t_n (ok_t_l (ok_ireturn dX13_call_18)) (ok_t_l (ok_iload_n dX13_call_19 rfl))) (ok_t_n (ok_t_l (ok_inv (run_S (y := 235) (n := 1) dX13_call_20 cz_235 gdG cc_235 ci_235 w_1706 cm_235 cd_235 cl_235))) (ok_t_l (ok_if_ne dX13_call_23 rfl)))))) (ok_t_n (ok_t_n (ok_t_n (ok_t_l (ok_aload_n dX13_call_26 rfl)) (ok_t_n (ok_t_l (ok_iconst dX13_call_27 rfl)) (ok_t_l (ok_inv (run_V (y := 229) (n := 1) (ci := 13) dX13_call_28 cz_229 gdG cc_229 ci_229 w_1672 cm_229 cs_229 cd_229 cl_229 rfl rfl))))) (ok_t_n (ok_t_n (ok_t_l (ok_ireturn dX13_call_31)) (ok_t_l (ok_aload_n dX13_call_32 rfl))) (ok_t_n (ok_t_l (ok_iload_n dX13_call_33 rfl)) (ok_t_l (ok_iload_n dX13_call_34 rfl))))) (ok_t_n (ok_t_n (ok_t_n (ok_t_l (ok_inv (run_V (y := 273) (n := 2) (ci := 13) dX13_call_35 cz_273 gdG cc_273 ci_273 w_2025 cm_273 cs_273 cd_273 cl_273 rfl rfl))) (ok_t_l (ok_if_ne dX13_call_38 rfl))) (ok_t_n (ok_t_l (ok_aload_n dX13_call_41 rfl)) (ok_t_l (ok_iconst dX13_call_42 rfl)))) (ok_t_n (ok_t_n (ok_t_l (ok_inv (run_V (y := 229) (n := 1) (ci := 13) dX13_call_43 cz_229 gdG cc_229 ci_229 w_1672 cm_229 cs_229 cd_229 cl_229 rfl rfl))) (ok_t_l (ok_ireturn dX13_call_46))) (ok_t_n (ok_t_l (ok_aload_n dX13_call_47 rfl)) (ok_t_l (ok_getfield dX13_call_48 (ci := 13) (kf := 27) rfl inGX13 (by decide) w_1600))))))) (ok_t_n (ok_t_n (ok_t_n (ok_t_n (ok_t_l (ok_iload_n dX13_call_51 rfl)) (ok_t_n (ok_t_l (ok_bipush dX13_call_52 rfl)) (ok_t_l (ok_imul dX13_call_54)))) (ok_t_n (ok_t_n (ok_t_l (ok_iload_n dX13_call_55 rfl)) (ok_t_l (ok_iadd dX13_call_56))) (ok_t_n (ok_t_l (ok_iaload dX13_call_57)) (ok_t_l (ok_iconst dX13_call_58 rfl))))) (ok_t_n (ok_t_n (ok_t_l (ok_icmp_ne dX13_call_59 rfl)) (ok_t_n (ok_t_l (ok_aload_n dX13_call_62 rfl)) (ok_t_l (ok_getfield dX13_call_63 (ci := 13) (kf := 27) rfl inGX13 (by decide) w_1600)))) (ok_t_n (ok_t_n (ok_t_l (ok_iload_n dX13_call_66 rfl)) (ok_t_l (ok_bipush dX13_call_67 rfl))) (ok_t_n (ok_t_l (ok_imul dX13_call_69)) (ok_t_l (ok_iload_n dX13_call_70 rfl)))))) (ok_t_n (ok_t_n (ok_t_n (ok_t_l (ok_iadd dX13_call_71)) (ok_t_n (ok_t_l (ok_aload_n dX13_call_72 rfl)) (ok_t_l (ok_iload_n dX13_call_73 rfl)))) (ok_t_n (ok_t_n (ok_t_l (ok_iload_n dX13_call_74 rfl)) (ok_t_l (ok_inv (run_V (y := 272) (n := 2) (ci := 13) dX13_call_75 cz_272 gdG cc_272 ci_272 w_2029 cm_272 cs_272 cd_272 cl_272 rfl rfl)))) (ok_t_n (ok_t_l (ok_iastore dX13_call_78)) (ok_t_l (ok_aload_n dX13_call_79 rfl))))) (ok_t_n (ok_t_n (ok_t_n (ok_t_l (ok_getfield dX13_call_80 (ci := 13) (kf := 27) rfl inGX13 (by decide) w_1600)) (ok_t_l (ok_iload_n dX13_call_83 rfl))) (ok_t_n (ok_t_l (ok_bipush dX13_call_84 rfl)) (ok_t_l (ok_imul dX13_call_86)))) (ok_t_n (ok_t_n (ok_t_l (ok_iload_n dX13_call_87 rfl)) (ok_t_l (ok_iadd dX13_call_88))) (ok_t_n (ok_t_l (ok_iaload dX13_call_89)) (ok_t_l (ok_ireturn dX13_call_90))))))))
theorem dX13_ofBindingNow_0 : decode cX13_ofBindingNow 0 = .ok (.aload_n 0, 1) := by decide +kernel
theorem dX13_ofBindingNow_1 : decode cX13_ofBindingNow 1 = .ok (.getfield 72, 3) := by decide +kernel
theorem dX13_ofBindingNow_4 : decode cX13_ofBindingNow 4 = .ok (.iload_n 1, 1) := by decide +kernel
theorem dX13_ofBindingNow_5 : decode cX13_ofBindingNow 5 = .ok (.bipush 20, 2) := by decide +kernel
theorem dX13_ofBindingNow_7 : decode cX13_ofBindingNow 7 = .ok (.imul, 1) := by decide +kernel
theorem dX13_ofBindingNow_8 : decode cX13_ofBindingNow 8 = .ok (.iload_n 2, 1) := by decide +kernel
theorem dX13_ofBindingNow_9 : decode cX13_ofBindingNow 9 = .ok (.iadd, 1) := by decide +kernel
theorem dX13_ofBindingNow_10 : decode cX13_ofBindingNow 10 = .ok (.iaload, 1) := by decide +kernel
theorem dX13_ofBindingNow_11 : decode cX13_ofBindingNow 11 = .ok (.istore 4, 2) := by decide +kernel
theorem dX13_ofBindingNow_13 : decode cX13_ofBindingNow 13 = .ok (.iload_n 3, 1) := by decide +kernel
theorem dX13_ofBindingNow_14 : decode cX13_ofBindingNow 14 = .ok (.tableswitch 60 0 2 #[26, 38, 57], 26) := by decide +kernel
theorem dX13_ofBindingNow_40 : decode cX13_ofBindingNow 40 = .ok (.aload_n 0, 1) := by decide +kernel
theorem dX13_ofBindingNow_41 : decode cX13_ofBindingNow 41 = .ok (.getfield 69, 3) := by decide +kernel
theorem dX13_ofBindingNow_44 : decode cX13_ofBindingNow 44 = .ok (.iload_n 1, 1) := by decide +kernel
theorem dX13_ofBindingNow_45 : decode cX13_ofBindingNow 45 = .ok (.bipush 20, 2) := by decide +kernel
theorem dX13_ofBindingNow_47 : decode cX13_ofBindingNow 47 = .ok (.imul, 1) := by decide +kernel
theorem dX13_ofBindingNow_48 : decode cX13_ofBindingNow 48 = .ok (.iload_n 2, 1) := by decide +kernel
theorem dX13_ofBindingNow_49 : decode cX13_ofBindingNow 49 = .ok (.iadd, 1) := by decide +kernel
theorem dX13_ofBindingNow_50 : decode cX13_ofBindingNow 50 = .ok (.iaload, 1) := by decide +kernel
theorem dX13_ofBindingNow_51 : decode cX13_ofBindingNow 51 = .ok (.ireturn, 1) := by decide +kernel
theorem dX13_ofBindingNow_52 : decode cX13_ofBindingNow 52 = .ok (.aload_n 0, 1) := by decide +kernel
theorem dX13_ofBindingNow_53 : decode cX13_ofBindingNow 53 = .ok (.getfield 60, 3) := by decide +kernel
theorem dX13_ofBindingNow_56 : decode cX13_ofBindingNow 56 = .ok (.iload_n 1, 1) := by decide +kernel
theorem dX13_ofBindingNow_57 : decode cX13_ofBindingNow 57 = .ok (.iaload, 1) := by decide +kernel
theorem dX13_ofBindingNow_58 : decode cX13_ofBindingNow 58 = .ok (.iload_n 2, 1) := by decide +kernel
theorem dX13_ofBindingNow_59 : decode cX13_ofBindingNow 59 = .ok (.invokestatic 125, 3) := by decide +kernel
theorem dX13_ofBindingNow_62 : decode cX13_ofBindingNow 62 = .ok (.ifCond .eq 7, 3) := by decide +kernel
theorem dX13_ofBindingNow_65 : decode cX13_ofBindingNow 65 = .ok (.iconst 1, 1) := by decide +kernel
theorem dX13_ofBindingNow_66 : decode cX13_ofBindingNow 66 = .ok (.goto 4, 3) := by decide +kernel
theorem dX13_ofBindingNow_69 : decode cX13_ofBindingNow 69 = .ok (.iconst 0, 1) := by decide +kernel
theorem dX13_ofBindingNow_70 : decode cX13_ofBindingNow 70 = .ok (.ireturn, 1) := by decide +kernel
theorem dX13_ofBindingNow_71 : decode cX13_ofBindingNow 71 = .ok (.iload 4, 2) := by decide +kernel
theorem dX13_ofBindingNow_73 : decode cX13_ofBindingNow 73 = .ok (.ireturn, 1) := by decide +kernel
theorem dX13_ofBindingNow_74 : decode cX13_ofBindingNow 74 = .ok (.iload 4, 2) := by decide +kernel
theorem dX13_ofBindingNow_76 : decode cX13_ofBindingNow 76 = .ok (.iconst (-1), 1) := by decide +kernel
theorem dX13_ofBindingNow_77 : decode cX13_ofBindingNow 77 = .ok (.if_icmp .ne 7, 3) := by decide +kernel
theorem dX13_ofBindingNow_80 : decode cX13_ofBindingNow 80 = .ok (.iconst (-1), 1) := by decide +kernel
theorem dX13_ofBindingNow_81 : decode cX13_ofBindingNow 81 = .ok (.goto 23, 3) := by decide +kernel
theorem dX13_ofBindingNow_84 : decode cX13_ofBindingNow 84 = .ok (.aload_n 0, 1) := by decide +kernel
theorem dX13_ofBindingNow_85 : decode cX13_ofBindingNow 85 = .ok (.getfield 66, 3) := by decide +kernel
theorem dX13_ofBindingNow_88 : decode cX13_ofBindingNow 88 = .ok (.iload 4, 2) := by decide +kernel
theorem dX13_ofBindingNow_90 : decode cX13_ofBindingNow 90 = .ok (.iaload, 1) := by decide +kernel
theorem dX13_ofBindingNow_91 : decode cX13_ofBindingNow 91 = .ok (.aload_n 0, 1) := by decide +kernel
theorem dX13_ofBindingNow_92 : decode cX13_ofBindingNow 92 = .ok (.getfield 69, 3) := by decide +kernel
theorem dX13_ofBindingNow_95 : decode cX13_ofBindingNow 95 = .ok (.iload 4, 2) := by decide +kernel
theorem dX13_ofBindingNow_97 : decode cX13_ofBindingNow 97 = .ok (.bipush 20, 2) := by decide +kernel
theorem dX13_ofBindingNow_99 : decode cX13_ofBindingNow 99 = .ok (.imul, 1) := by decide +kernel
theorem dX13_ofBindingNow_100 : decode cX13_ofBindingNow 100 = .ok (.iload_n 2, 1) := by decide +kernel
theorem dX13_ofBindingNow_101 : decode cX13_ofBindingNow 101 = .ok (.iadd, 1) := by decide +kernel
theorem dX13_ofBindingNow_102 : decode cX13_ofBindingNow 102 = .ok (.iaload, 1) := by decide +kernel
theorem dX13_ofBindingNow_103 : decode cX13_ofBindingNow 103 = .ok (.iadd, 1) := by decide +kernel
theorem dX13_ofBindingNow_104 : decode cX13_ofBindingNow 104 = .ok (.ireturn, 1) := by decide +kernel
def g_X13_ofBindingNow : Nat → EA := (t_n 62 (t_n 44 (t_n 9 (t_n 5 (t_n 1 (t_l 0 (a_aload 1 0)) (t_n 4 (t_l 1 (a_getf 13 27)) (t_l 4 (a_iload 1 1)))) (t_n 7 (t_l 5 (a_push 2 (.int 20))) (t_n 8 (t_l 7 (a_ii 1 (fun x y => x * y))) (t_l 8 (a_iload 1 2))))) (t_n 13 (t_n 10 (t_l 9 (a_ii 1 (fun x y => x + y))) (t_n 11 (t_l 10 (a_ild 0)) (t_l 11 (a_istore 5 2 4)))) (t_n 40 (t_n 14 (t_l 13 (a_iload 1 3)) (t_l 14 (a_tsw 0 [40, 52, 71] 74))) (t_n 41 (t_l 40 (a_aload 1 0)) (t_l 41 (a_getf 13 26)))))) (t_n 51 (t_n 48 (t_n 45 (t_l 44 (a_iload 1 1)) (t_n 47 (t_l 45 (a_push 2 (.int 20))) (t_l 47 (a_ii 1 (fun x y => x * y))))) (t_n 49 (t_l 48 (a_iload 1 2)) (t_n 50 (t_l 49 (a_ii 1 (fun x y => x + y))) (t_l 50 (a_ild 0))))) (t_n 56 (t_n 52 (t_l 51 a_iret) (t_n 53 (t_l 52 (a_aload 1 0)) (t_l 53 (a_getf 13 23)))) (t_n 58 (t_n 57 (t_l 56 (a_iload 1 1)) (t_l 57 (a_ild 0))) (t_n 59 (t_l 58 (a_iload 1 2)) (t_l 59 (a_inv true 231 2 none))))))) (t_n 85 (t_n 73 (t_n 69 (t_n 65 (t_l 62 (a_if 69 (fun x => decide (x = 0)))) (t_n 66 (t_l 65 (a_push 1 (.int 1))) (t_l 66 (a_goto 70)))) (t_n 70 (t_l 69 (a_push 1 (.int 0))) (t_n 71 (t_l 70 a_iret) (t_l 71 (a_iload 2 4))))) (t_n 77 (t_n 74 (t_l 73 a_iret) (t_n 76 (t_l 74 (a_iload 2 4)) (t_l 76 (a_push 1 (.int (-1)))))) (t_n 81 (t_n 80 (t_l 77 (a_ic 84 (fun x y => !decide (x = y)))) (t_l 80 (a_push 1 (.int (-1))))) (t_n 84 (t_l 81 (a_goto 104)) (t_l 84 (a_aload 1 0)))))) (t_n 97 (t_n 91 (t_n 88 (t_l 85 (a_getf 13 25)) (t_n 90 (t_l 88 (a_iload 2 4)) (t_l 90 (a_ild 0)))) (t_n 92 (t_l 91 (a_aload 1 0)) (t_n 95 (t_l 92 (a_getf 13 26)) (t_l 95 (a_iload 2 4))))) (t_n 101 (t_n 99 (t_l 97 (a_push 2 (.int 20))) (t_n 100 (t_l 99 (a_ii 1 (fun x y => x * y))) (t_l 100 (a_iload 1 2)))) (t_n 103 (t_n 102 (t_l 101 (a_ii 1 (fun x y => x + y))) (t_l 102 (a_ild 0))) (t_n 104 (t_l 103 (a_ii 1 (fun x y => x + y))) (t_l 104 a_iret)))))))
set_option maxRecDepth 100000 in
theorem k_X13_ofBindingNow (d : Nat) : ∀ pc, ev_Ok cX13_ofBindingNow 5 [] RX13 lw_g lw_n lw_q vwCl false (ev_CO mt lw_g lw_n lw_q vwCl d) pc (g_X13_ofBindingNow pc) := (ok_t_n (ok_t_n (ok_t_n (ok_t_n (ok_t_n (ok_t_l (ok_aload_n dX13_ofBindingNow_0 rfl)) (ok_t_n (ok_t_l (ok_getfield dX13_ofBindingNow_1 (ci := 13) (kf := 27) rfl inGX13 (by decide) w_1600)) (ok_t_l (ok_iload_n dX13_ofBindingNow_4 rfl)))) (ok_t_n (ok_t_l (ok_bipush dX13_ofBindingNow_5 rfl)) (ok_t_n (ok_t_l (ok_imul dX13_ofBindingNow_7)) (ok_t_l (ok_iload_n dX13_ofBindingNow_8 rfl))))) (ok_t_n (ok_t_n (ok_t_l (ok_iadd dX13_ofBindingNow_9)) (ok_t_n (ok_t_l (ok_iaload dX13_ofBindingNow_10)) (ok_t_l (ok_istore dX13_ofBindingNow_11)))) (ok_t_n (ok_t_n (ok_t_l (ok_iload_n dX13_ofBindingNow_13 rfl)) (ok_t_l (ok_tsw dX13_ofBindingNow_14 rfl rfl rfl))) (ok_t_n (ok_t_l (ok_aload_n dX13_ofBindingNow_40 rfl)) (ok_t_l (ok_getfield dX13_ofBindingNow_41 (ci := 13) (kf := 26) rfl inGX13 (by decide) w_1599)))))) (ok_t_n (ok_t_n (ok_t_n (ok_t_l (ok_iload_n dX13_ofBindingNow_44 rfl)) (ok_t_n (ok_t_l (ok_bipush dX13_ofBindingNow_45 rfl)) (ok_t_l (ok_imul dX13_ofBindingNow_47)))) (ok_t_n (ok_t_l (ok_iload_n dX13_ofBindingNow_48 rfl)) (ok_t_n (ok_t_l (ok_iadd dX13_ofBindingNow_49)) (ok_t_l (ok_iaload dX13_ofBindingNow_50))))) (ok_t_n (ok_t_n (ok_t_l (ok_ireturn dX13_ofBindingNow_51)) (ok_t_n (ok_t_l (ok_aload_n dX13_ofBindingNow_52 rfl)) (ok_t_l (ok_getfield dX13_ofBindingNow_53 (ci := 13) (kf := 23) rfl inGX13 (by decide) w_1596)))) (ok_t_n (ok_t_n (ok_t_l (ok_iload_n dX13_ofBindingNow_56 rfl)) (ok_t_l (ok_iaload dX13_ofBindingNow_57))) (ok_t_n (ok_t_l (ok_iload_n dX13_ofBindingNow_58 rfl)) (ok_t_l (ok_inv (run_S (y := 231) (n := 2) dX13_ofBindingNow_59 cz_231 gdG cc_231 ci_231 w_1753 cm_231 cd_231 cl_231)))))))) (ok_t_n (ok_t_n (ok_t_n (ok_t_n (ok_t_l (ok_if_eq dX13_ofBindingNow_62 rfl)) (ok_t_n (ok_t_l (ok_iconst dX13_ofBindingNow_65 rfl)) (ok_t_l (ok_goto dX13_ofBindingNow_66 rfl)))) (ok_t_n (ok_t_l (ok_iconst dX13_ofBindingNow_69 rfl)) (ok_t_n (ok_t_l (ok_ireturn dX13_ofBindingNow_70)) (ok_t_l (ok_iload dX13_ofBindingNow_71))))) (ok_t_n (ok_t_n (ok_t_l (ok_ireturn dX13_ofBindingNow_73)) (ok_t_n (ok_t_l (ok_iload dX13_ofBindingNow_74)) (ok_t_l (ok_iconst dX13_ofBindingNow_76 rfl)))) (ok_t_n (ok_t_n (ok_t_l (ok_icmp_ne dX13_ofBindingNow_77 rfl)) (ok_t_l (ok_iconst dX13_ofBindingNow_80 rfl))) (ok_t_n (ok_t_l (ok_goto dX13_ofBindingNow_81 rfl)) (ok_t_l (ok_aload_n dX13_ofBindingNow_84 rfl)))))) (ok_t_n (ok_t_n (ok_t_n (ok_t_l (ok_getfield dX13_ofBindingNow_85 (ci := 13) (kf := 25) rfl inGX13 (by decide) w_1598)) (ok_t_n (ok_t_l (ok_iload dX13_ofBindingNow_88)) (ok_t_l (ok_iaload dX13_ofBindingNow_90)))) (ok_t_n (ok_t_l (ok_aload_n dX13_ofBindingNow_91 rfl)) (ok_t_n (ok_t_l (ok_getfield dX13_ofBindingNow_92 (ci := 13) (kf := 26) rfl inGX13 (by decide) w_1599)) (ok_t_l (ok_iload dX13_ofBindingNow_95))))) (ok_t_n (ok_t_n (ok_t_l (ok_bipush dX13_ofBindingNow_97 rfl)) (ok_t_n (ok_t_l (ok_imul dX13_ofBindingNow_99)) (ok_t_l (ok_iload_n dX13_ofBindingNow_100 rfl)))) (ok_t_n (ok_t_n (ok_t_l (ok_iadd dX13_ofBindingNow_101)) (ok_t_l (ok_iaload dX13_ofBindingNow_102))) (ok_t_n (ok_t_l (ok_iadd dX13_ofBindingNow_103)) (ok_t_l (ok_ireturn dX13_ofBindingNow_104))))))))
theorem dX13_ofBinding_0 : decode cX13_ofBinding 0 = .ok (.aload_n 0, 1) := by decide +kernel
theorem dX13_ofBinding_1 : decode cX13_ofBinding 1 = .ok (.iconst 0, 1) := by decide +kernel
theorem dX13_ofBinding_2 : decode cX13_ofBinding 2 = .ok (.putfield 81, 3) := by decide +kernel
theorem dX13_ofBinding_5 : decode cX13_ofBinding 5 = .ok (.aload_n 0, 1) := by decide +kernel
theorem dX13_ofBinding_6 : decode cX13_ofBinding 6 = .ok (.iload_n 1, 1) := by decide +kernel
theorem dX13_ofBinding_7 : decode cX13_ofBinding 7 = .ok (.invokevirtual 223, 3) := by decide +kernel
theorem dX13_ofBinding_10 : decode cX13_ofBinding 10 = .ok (.ifCond .ne 9, 3) := by decide +kernel
theorem dX13_ofBinding_13 : decode cX13_ofBinding 13 = .ok (.aload_n 0, 1) := by decide +kernel
theorem dX13_ofBinding_14 : decode cX13_ofBinding 14 = .ok (.iconst 1, 1) := by decide +kernel
theorem dX13_ofBinding_15 : decode cX13_ofBinding 15 = .ok (.invokevirtual 94, 3) := by decide +kernel
theorem dX13_ofBinding_18 : decode cX13_ofBinding 18 = .ok (.ireturn, 1) := by decide +kernel
theorem dX13_ofBinding_19 : decode cX13_ofBinding 19 = .ok (.iload_n 2, 1) := by decide +kernel
theorem dX13_ofBinding_20 : decode cX13_ofBinding 20 = .ok (.invokestatic 112, 3) := by decide +kernel
theorem dX13_ofBinding_23 : decode cX13_ofBinding 23 = .ok (.ifCond .eq 22, 3) := by decide +kernel
theorem dX13_ofBinding_26 : decode cX13_ofBinding 26 = .ok (.iload_n 3, 1) := by decide +kernel
theorem dX13_ofBinding_27 : decode cX13_ofBinding 27 = .ok (.iconst 0, 1) := by decide +kernel
theorem dX13_ofBinding_28 : decode cX13_ofBinding 28 = .ok (.iconst 3, 1) := by decide +kernel
theorem dX13_ofBinding_29 : decode cX13_ofBinding 29 = .ok (.invokestatic 87, 3) := by decide +kernel
theorem dX13_ofBinding_32 : decode cX13_ofBinding 32 = .ok (.ifCond .eq 13, 3) := by decide +kernel
theorem dX13_ofBinding_35 : decode cX13_ofBinding 35 = .ok (.aload_n 0, 1) := by decide +kernel
theorem dX13_ofBinding_36 : decode cX13_ofBinding 36 = .ok (.iload_n 1, 1) := by decide +kernel
theorem dX13_ofBinding_37 : decode cX13_ofBinding 37 = .ok (.iload_n 2, 1) := by decide +kernel
theorem dX13_ofBinding_38 : decode cX13_ofBinding 38 = .ok (.iload_n 3, 1) := by decide +kernel
theorem dX13_ofBinding_39 : decode cX13_ofBinding 39 = .ok (.invokevirtual 246, 3) := by decide +kernel
theorem dX13_ofBinding_42 : decode cX13_ofBinding 42 = .ok (.goto 8, 3) := by decide +kernel
theorem dX13_ofBinding_45 : decode cX13_ofBinding 45 = .ok (.aload_n 0, 1) := by decide +kernel
theorem dX13_ofBinding_46 : decode cX13_ofBinding 46 = .ok (.iconst 2, 1) := by decide +kernel
theorem dX13_ofBinding_47 : decode cX13_ofBinding 47 = .ok (.invokevirtual 94, 3) := by decide +kernel
theorem dX13_ofBinding_50 : decode cX13_ofBinding 50 = .ok (.ireturn, 1) := by decide +kernel
def g_X13_ofBinding : Nat → EA := (t_n 26 (t_n 13 (t_n 5 (t_n 1 (t_l 0 (a_aload 1 0)) (t_n 2 (t_l 1 (a_push 1 (.int 0))) (t_l 2 (a_putf 0 13 0)))) (t_n 7 (t_n 6 (t_l 5 (a_aload 1 0)) (t_l 6 (a_iload 1 1))) (t_n 10 (t_l 7 (a_inv true 260 2 (some 13))) (t_l 10 (a_if 19 (fun x => !decide (x = 0))))))) (t_n 18 (t_n 14 (t_l 13 (a_aload 1 0)) (t_n 15 (t_l 14 (a_push 1 (.int 1))) (t_l 15 (a_inv true 229 2 (some 13))))) (t_n 20 (t_n 19 (t_l 18 a_iret) (t_l 19 (a_iload 1 2))) (t_n 23 (t_l 20 (a_inv true 235 1 none)) (t_l 23 (a_if 45 (fun x => decide (x = 0)))))))) (t_n 37 (t_n 29 (t_n 27 (t_l 26 (a_iload 1 3)) (t_n 28 (t_l 27 (a_push 1 (.int 0))) (t_l 28 (a_push 1 (.int 3))))) (t_n 35 (t_n 32 (t_l 29 (a_inv true 230 3 none)) (t_l 32 (a_if 45 (fun x => decide (x = 0))))) (t_n 36 (t_l 35 (a_aload 1 0)) (t_l 36 (a_iload 1 1))))) (t_n 45 (t_n 39 (t_n 38 (t_l 37 (a_iload 1 2)) (t_l 38 (a_iload 1 3))) (t_n 42 (t_l 39 (a_inv true 275 4 (some 13))) (t_l 42 (a_goto 50)))) (t_n 47 (t_n 46 (t_l 45 (a_aload 1 0)) (t_l 46 (a_push 1 (.int 2)))) (t_n 50 (t_l 47 (a_inv true 229 2 (some 13))) (t_l 50 a_iret))))))
set_option maxRecDepth 100000 in
theorem k_X13_ofBinding (d : Nat) : ∀ pc, ev_Ok cX13_ofBinding 4 [] RX13 lw_g lw_n lw_q vwCl false (ev_CO mt lw_g lw_n lw_q vwCl d) pc (g_X13_ofBinding pc) := (ok_t_n (ok_t_n (ok_t_n (ok_t_n (ok_t_l (ok_aload_n dX13_ofBinding_0 rfl)) (ok_t_n (ok_t_l (ok_iconst dX13_ofBinding_1 rfl)) (ok_t_l (ok_putfield dX13_ofBinding_2 (ci := 13) (kf := 0) rfl inGX13 (by decide) tyX13_ok nmX13 rfl w_1559 rfl)))) (ok_t_n (ok_t_n (ok_t_l (ok_aload_n dX13_ofBinding_5 rfl)) (ok_t_l (ok_iload_n dX13_ofBinding_6 rfl))) (ok_t_n (ok_t_l (ok_inv (run_V (y := 260) (n := 1) (ci := 13) dX13_ofBinding_7 cz_260 gdG cc_260 ci_260 w_1983 cm_260 cs_260 cd_260 cl_260 rfl rfl))) (ok_t_l (ok_if_ne dX13_ofBinding_10 rfl))))) (ok_t_n (ok_t_n (ok_t_l (ok_aload_n dX13_ofBinding_13 rfl)) (ok_t_n (ok_t_l (ok_iconst dX13_ofBinding_14 rfl)) (ok_t_l (ok_inv (run_V (y := 229) (n := 1) (ci := 13) dX13_ofBinding_15 cz_229 gdG cc_229 ci_229 w_1672 cm_229 cs_229 cd_229 cl_229 rfl rfl))))) (ok_t_n (ok_t_n (ok_t_l (ok_ireturn dX13_ofBinding_18)) (ok_t_l (ok_iload_n dX13_ofBinding_19 rfl))) (ok_t_n (ok_t_l (ok_inv (run_S (y := 235) (n := 1) dX13_ofBinding_20 cz_235 gdG cc_235 ci_235 w_1706 cm_235 cd_235 cl_235))) (ok_t_l (ok_if_eq dX13_ofBinding_23 rfl)))))) (ok_t_n (ok_t_n (ok_t_n (ok_t_l (ok_iload_n dX13_ofBinding_26 rfl)) (ok_t_n (ok_t_l (ok_iconst dX13_ofBinding_27 rfl)) (ok_t_l (ok_iconst dX13_ofBinding_28 rfl)))) (ok_t_n (ok_t_n (ok_t_l (ok_inv (run_S (y := 230) (n := 3) dX13_ofBinding_29 cz_230 gdG cc_230 ci_230 w_1684 cm_230 cd_230 cl_230))) (ok_t_l (ok_if_eq dX13_ofBinding_32 rfl))) (ok_t_n (ok_t_l (ok_aload_n dX13_ofBinding_35 rfl)) (ok_t_l (ok_iload_n dX13_ofBinding_36 rfl))))) (ok_t_n (ok_t_n (ok_t_n (ok_t_l (ok_iload_n dX13_ofBinding_37 rfl)) (ok_t_l (ok_iload_n dX13_ofBinding_38 rfl))) (ok_t_n (ok_t_l (ok_inv (run_V (y := 275) (n := 3) (ci := 13) dX13_ofBinding_39 cz_275 gdG cc_275 ci_275 w_2037 cm_275 cs_275 cd_275 cl_275 rfl rfl))) (ok_t_l (ok_goto dX13_ofBinding_42 rfl)))) (ok_t_n (ok_t_n (ok_t_l (ok_aload_n dX13_ofBinding_45 rfl)) (ok_t_l (ok_iconst dX13_ofBinding_46 rfl))) (ok_t_n (ok_t_l (ok_inv (run_V (y := 229) (n := 1) (ci := 13) dX13_ofBinding_47 cz_229 gdG cc_229 ci_229 w_1672 cm_229 cs_229 cd_229 cl_229 rfl rfl))) (ok_t_l (ok_ireturn dX13_ofBinding_50)))))))
theorem dX13_exports_0 : decode cX13_exports 0 = .ok (.iconst 0, 1) := by decide +kernel
theorem dX13_exports_1 : decode cX13_exports 1 = .ok (.istore_n 2, 1) := by decide +kernel
theorem dX13_exports_2 : decode cX13_exports 2 = .ok (.iconst 0, 1) := by decide +kernel
theorem dX13_exports_3 : decode cX13_exports 3 = .ok (.istore_n 3, 1) := by decide +kernel
theorem dX13_exports_4 : decode cX13_exports 4 = .ok (.iload_n 3, 1) := by decide +kernel
theorem dX13_exports_5 : decode cX13_exports 5 = .ok (.bipush 20, 2) := by decide +kernel
theorem dX13_exports_7 : decode cX13_exports 7 = .ok (.if_icmp .ge 32, 3) := by decide +kernel
theorem dX13_exports_10 : decode cX13_exports 10 = .ok (.iload_n 2, 1) := by decide +kernel
theorem dX13_exports_11 : decode cX13_exports 11 = .ok (.aload_n 0, 1) := by decide +kernel
theorem dX13_exports_12 : decode cX13_exports 12 = .ok (.getfield 69, 3) := by decide +kernel
theorem dX13_exports_15 : decode cX13_exports 15 = .ok (.iload_n 1, 1) := by decide +kernel
theorem dX13_exports_16 : decode cX13_exports 16 = .ok (.bipush 20, 2) := by decide +kernel
theorem dX13_exports_18 : decode cX13_exports 18 = .ok (.imul, 1) := by decide +kernel
theorem dX13_exports_19 : decode cX13_exports 19 = .ok (.iload_n 3, 1) := by decide +kernel
theorem dX13_exports_20 : decode cX13_exports 20 = .ok (.iadd, 1) := by decide +kernel
theorem dX13_exports_21 : decode cX13_exports 21 = .ok (.iaload, 1) := by decide +kernel
theorem dX13_exports_22 : decode cX13_exports 22 = .ok (.iconst (-1), 1) := by decide +kernel
theorem dX13_exports_23 : decode cX13_exports 23 = .ok (.if_icmp .ne 7, 3) := by decide +kernel
theorem dX13_exports_26 : decode cX13_exports 26 = .ok (.iconst 0, 1) := by decide +kernel
theorem dX13_exports_27 : decode cX13_exports 27 = .ok (.goto 4, 3) := by decide +kernel
theorem dX13_exports_30 : decode cX13_exports 30 = .ok (.iconst 1, 1) := by decide +kernel
theorem dX13_exports_31 : decode cX13_exports 31 = .ok (.iadd, 1) := by decide +kernel
theorem dX13_exports_32 : decode cX13_exports 32 = .ok (.istore_n 2, 1) := by decide +kernel
theorem dX13_exports_33 : decode cX13_exports 33 = .ok (.iinc 3 1, 3) := by decide +kernel
theorem dX13_exports_36 : decode cX13_exports 36 = .ok (.goto (-32), 3) := by decide +kernel
theorem dX13_exports_39 : decode cX13_exports 39 = .ok (.iload_n 2, 1) := by decide +kernel
theorem dX13_exports_40 : decode cX13_exports 40 = .ok (.ireturn, 1) := by decide +kernel
def g_X13_exports : Nat → EA := (t_n 19 (t_n 7 (t_n 3 (t_n 1 (t_l 0 (a_push 1 (.int 0))) (t_n 2 (t_l 1 (a_istore 4 1 2)) (t_l 2 (a_push 1 (.int 0))))) (t_n 4 (t_l 3 (a_istore 4 1 3)) (t_n 5 (t_l 4 (a_iload 1 3)) (t_l 5 (a_push 2 (.int 20)))))) (t_n 12 (t_n 10 (t_l 7 (a_ic 39 (fun x y => decide (y ≤ x)))) (t_n 11 (t_l 10 (a_iload 1 2)) (t_l 11 (a_aload 1 0)))) (t_n 16 (t_n 15 (t_l 12 (a_getf 13 26)) (t_l 15 (a_iload 1 1))) (t_n 18 (t_l 16 (a_push 2 (.int 20))) (t_l 18 (a_ii 1 (fun x y => x * y))))))) (t_n 30 (t_n 22 (t_n 20 (t_l 19 (a_iload 1 3)) (t_n 21 (t_l 20 (a_ii 1 (fun x y => x + y))) (t_l 21 (a_ild 0)))) (t_n 26 (t_n 23 (t_l 22 (a_push 1 (.int (-1)))) (t_l 23 (a_ic 30 (fun x y => !decide (x = y))))) (t_n 27 (t_l 26 (a_push 1 (.int 0))) (t_l 27 (a_goto 31))))) (t_n 33 (t_n 31 (t_l 30 (a_push 1 (.int 1))) (t_n 32 (t_l 31 (a_ii 1 (fun x y => x + y))) (t_l 32 (a_istore 4 1 2)))) (t_n 39 (t_n 36 (t_l 33 (a_iinc 4 3 1)) (t_l 36 (a_goto 4))) (t_n 40 (t_l 39 (a_iload 1 2)) (t_l 40 a_iret))))))
set_option maxRecDepth 100000 in
theorem k_X13_exports (d : Nat) : ∀ pc, ev_Ok cX13_exports 4 [] RX13 lw_g lw_n lw_q vwCl false (ev_CO mt lw_g lw_n lw_q vwCl d) pc (g_X13_exports pc) := (ok_t_n (ok_t_n (ok_t_n (ok_t_n (ok_t_l (ok_iconst dX13_exports_0 rfl)) (ok_t_n (ok_t_l (ok_istore_n dX13_exports_1 rfl)) (ok_t_l (ok_iconst dX13_exports_2 rfl)))) (ok_t_n (ok_t_l (ok_istore_n dX13_exports_3 rfl)) (ok_t_n (ok_t_l (ok_iload_n dX13_exports_4 rfl)) (ok_t_l (ok_bipush dX13_exports_5 rfl))))) (ok_t_n (ok_t_n (ok_t_l (ok_icmp_ge dX13_exports_7 rfl)) (ok_t_n (ok_t_l (ok_iload_n dX13_exports_10 rfl)) (ok_t_l (ok_aload_n dX13_exports_11 rfl)))) (ok_t_n (ok_t_n (ok_t_l (ok_getfield dX13_exports_12 (ci := 13) (kf := 26) rfl inGX13 (by decide) w_1599)) (ok_t_l (ok_iload_n dX13_exports_15 rfl))) (ok_t_n (ok_t_l (ok_bipush dX13_exports_16 rfl)) (ok_t_l (ok_imul dX13_exports_18)))))) (ok_t_n (ok_t_n (ok_t_n (ok_t_l (ok_iload_n dX13_exports_19 rfl)) (ok_t_n (ok_t_l (ok_iadd dX13_exports_20)) (ok_t_l (ok_iaload dX13_exports_21)))) (ok_t_n (ok_t_n (ok_t_l (ok_iconst dX13_exports_22 rfl)) (ok_t_l (ok_icmp_ne dX13_exports_23 rfl))) (ok_t_n (ok_t_l (ok_iconst dX13_exports_26 rfl)) (ok_t_l (ok_goto dX13_exports_27 rfl))))) (ok_t_n (ok_t_n (ok_t_l (ok_iconst dX13_exports_30 rfl)) (ok_t_n (ok_t_l (ok_iadd dX13_exports_31)) (ok_t_l (ok_istore_n dX13_exports_32 rfl)))) (ok_t_n (ok_t_n (ok_t_l (ok_iinc dX13_exports_33 rfl)) (ok_t_l (ok_goto dX13_exports_36 rfl))) (ok_t_n (ok_t_l (ok_iload_n dX13_exports_39 rfl)) (ok_t_l (ok_ireturn dX13_exports_40)))))))
theorem dX13_bits_0 : decode cX13_bits 0 = .ok (.iconst 0, 1) := by decide +kernel
theorem dX13_bits_1 : decode cX13_bits 1 = .ok (.istore_n 1, 1) := by decide +kernel
theorem dX13_bits_2 : decode cX13_bits 2 = .ok (.iload_n 0, 1) := by decide +kernel
theorem dX13_bits_3 : decode cX13_bits 3 = .ok (.istore_n 2, 1) := by decide +kernel
theorem dX13_bits_4 : decode cX13_bits 4 = .ok (.iload_n 2, 1) := by decide +kernel
theorem dX13_bits_5 : decode cX13_bits 5 = .ok (.ifCond .le 16, 3) := by decide +kernel
theorem dX13_bits_8 : decode cX13_bits 8 = .ok (.iload_n 1, 1) := by decide +kernel
theorem dX13_bits_9 : decode cX13_bits 9 = .ok (.iload_n 2, 1) := by decide +kernel
theorem dX13_bits_10 : decode cX13_bits 10 = .ok (.iconst 2, 1) := by decide +kernel
theorem dX13_bits_11 : decode cX13_bits 11 = .ok (.irem, 1) := by decide +kernel
theorem dX13_bits_12 : decode cX13_bits 12 = .ok (.iadd, 1) := by decide +kernel
theorem dX13_bits_13 : decode cX13_bits 13 = .ok (.istore_n 1, 1) := by decide +kernel
theorem dX13_bits_14 : decode cX13_bits 14 = .ok (.iload_n 2, 1) := by decide +kernel
theorem dX13_bits_15 : decode cX13_bits 15 = .ok (.iconst 2, 1) := by decide +kernel
theorem dX13_bits_16 : decode cX13_bits 16 = .ok (.idiv, 1) := by decide +kernel
theorem dX13_bits_17 : decode cX13_bits 17 = .ok (.istore_n 2, 1) := by decide +kernel
theorem dX13_bits_18 : decode cX13_bits 18 = .ok (.goto (-14), 3) := by decide +kernel
theorem dX13_bits_21 : decode cX13_bits 21 = .ok (.iload_n 1, 1) := by decide +kernel
theorem dX13_bits_22 : decode cX13_bits 22 = .ok (.ireturn, 1) := by decide +kernel
def g_X13_bits : Nat → EA := (t_n 11 (t_n 4 (t_n 2 (t_n 1 (t_l 0 (a_push 1 (.int 0))) (t_l 1 (a_istore 3 1 1))) (t_n 3 (t_l 2 (a_iload 1 0)) (t_l 3 (a_istore 3 1 2)))) (t_n 8 (t_n 5 (t_l 4 (a_iload 1 2)) (t_l 5 (a_if 21 (fun x => decide (x ≤ 0))))) (t_n 9 (t_l 8 (a_iload 1 1)) (t_n 10 (t_l 9 (a_iload 1 2)) (t_l 10 (a_push 1 (.int 2))))))) (t_n 16 (t_n 13 (t_n 12 (t_l 11 (a_iiN (fun x y => x - x / y * y))) (t_l 12 (a_ii 1 (fun x y => x + y)))) (t_n 14 (t_l 13 (a_istore 3 1 1)) (t_n 15 (t_l 14 (a_iload 1 2)) (t_l 15 (a_push 1 (.int 2)))))) (t_n 18 (t_n 17 (t_l 16 (a_iiN (fun x y => x / y))) (t_l 17 (a_istore 3 1 2))) (t_n 21 (t_l 18 (a_goto 4)) (t_n 22 (t_l 21 (a_iload 1 1)) (t_l 22 a_iret))))))
set_option maxRecDepth 100000 in
theorem k_X13_bits (d : Nat) : ∀ pc, ev_Ok cX13_bits 3 [] RX13 lw_g lw_n lw_q vwCl false (ev_CO mt lw_g lw_n lw_q vwCl d) pc (g_X13_bits pc) := (ok_t_n (ok_t_n (ok_t_n (ok_t_n (ok_t_l (ok_iconst dX13_bits_0 rfl)) (ok_t_l (ok_istore_n dX13_bits_1 rfl))) (ok_t_n (ok_t_l (ok_iload_n dX13_bits_2 rfl)) (ok_t_l (ok_istore_n dX13_bits_3 rfl)))) (ok_t_n (ok_t_n (ok_t_l (ok_iload_n dX13_bits_4 rfl)) (ok_t_l (ok_if_le dX13_bits_5 rfl))) (ok_t_n (ok_t_l (ok_iload_n dX13_bits_8 rfl)) (ok_t_n (ok_t_l (ok_iload_n dX13_bits_9 rfl)) (ok_t_l (ok_iconst dX13_bits_10 rfl)))))) (ok_t_n (ok_t_n (ok_t_n (ok_t_l (ok_irem dX13_bits_11)) (ok_t_l (ok_iadd dX13_bits_12))) (ok_t_n (ok_t_l (ok_istore_n dX13_bits_13 rfl)) (ok_t_n (ok_t_l (ok_iload_n dX13_bits_14 rfl)) (ok_t_l (ok_iconst dX13_bits_15 rfl))))) (ok_t_n (ok_t_n (ok_t_l (ok_idiv dX13_bits_16)) (ok_t_l (ok_istore_n dX13_bits_17 rfl))) (ok_t_n (ok_t_l (ok_goto dX13_bits_18 rfl)) (ok_t_n (ok_t_l (ok_iload_n dX13_bits_21 rfl)) (ok_t_l (ok_ireturn dX13_bits_22)))))))
theorem dX13_ofLibraryNow_0 : decode cX13_ofLibraryNow 0 = .ok (.iload_n 2, 1) := by decide +kernel
theorem dX13_ofLibraryNow_1 : decode cX13_ofLibraryNow 1 = .ok (.tableswitch 108 0 6 #[43, 50, 56, 66, 73, 80, 99], 43) := by decide +kernel
theorem dX13_ofLibraryNow_44 : decode cX13_ofLibraryNow 44 = .ok (.aload_n 0, 1) := by decide +kernel
theorem dX13_ofLibraryNow_45 : decode cX13_ofLibraryNow 45 = .ok (.getfield 54, 3) := by decide +kernel
theorem dX13_ofLibraryNow_48 : decode cX13_ofLibraryNow 48 = .ok (.iload_n 1, 1) := by decide +kernel
theorem dX13_ofLibraryNow_49 : decode cX13_ofLibraryNow 49 = .ok (.iaload, 1) := by decide +kernel
theorem dX13_ofLibraryNow_50 : decode cX13_ofLibraryNow 50 = .ok (.ireturn, 1) := by decide +kernel
theorem dX13_ofLibraryNow_51 : decode cX13_ofLibraryNow 51 = .ok (.aload_n 0, 1) := by decide +kernel
theorem dX13_ofLibraryNow_52 : decode cX13_ofLibraryNow 52 = .ok (.iload_n 1, 1) := by decide +kernel
theorem dX13_ofLibraryNow_53 : decode cX13_ofLibraryNow 53 = .ok (.invokevirtual 249, 3) := by decide +kernel
theorem dX13_ofLibraryNow_56 : decode cX13_ofLibraryNow 56 = .ok (.ireturn, 1) := by decide +kernel
theorem dX13_ofLibraryNow_57 : decode cX13_ofLibraryNow 57 = .ok (.aload_n 0, 1) := by decide +kernel
theorem dX13_ofLibraryNow_58 : decode cX13_ofLibraryNow 58 = .ok (.getfield 60, 3) := by decide +kernel
theorem dX13_ofLibraryNow_61 : decode cX13_ofLibraryNow 61 = .ok (.iload_n 1, 1) := by decide +kernel
theorem dX13_ofLibraryNow_62 : decode cX13_ofLibraryNow 62 = .ok (.iaload, 1) := by decide +kernel
theorem dX13_ofLibraryNow_63 : decode cX13_ofLibraryNow 63 = .ok (.invokestatic 252, 3) := by decide +kernel
theorem dX13_ofLibraryNow_66 : decode cX13_ofLibraryNow 66 = .ok (.ireturn, 1) := by decide +kernel
theorem dX13_ofLibraryNow_67 : decode cX13_ofLibraryNow 67 = .ok (.aload_n 0, 1) := by decide +kernel
theorem dX13_ofLibraryNow_68 : decode cX13_ofLibraryNow 68 = .ok (.getfield 57, 3) := by decide +kernel
theorem dX13_ofLibraryNow_71 : decode cX13_ofLibraryNow 71 = .ok (.iload_n 1, 1) := by decide +kernel
theorem dX13_ofLibraryNow_72 : decode cX13_ofLibraryNow 72 = .ok (.iaload, 1) := by decide +kernel
theorem dX13_ofLibraryNow_73 : decode cX13_ofLibraryNow 73 = .ok (.ireturn, 1) := by decide +kernel
theorem dX13_ofLibraryNow_74 : decode cX13_ofLibraryNow 74 = .ok (.aload_n 0, 1) := by decide +kernel
theorem dX13_ofLibraryNow_75 : decode cX13_ofLibraryNow 75 = .ok (.getfield 63, 3) := by decide +kernel
theorem dX13_ofLibraryNow_78 : decode cX13_ofLibraryNow 78 = .ok (.iload_n 1, 1) := by decide +kernel
theorem dX13_ofLibraryNow_79 : decode cX13_ofLibraryNow 79 = .ok (.iaload, 1) := by decide +kernel
theorem dX13_ofLibraryNow_80 : decode cX13_ofLibraryNow 80 = .ok (.ireturn, 1) := by decide +kernel
theorem dX13_ofLibraryNow_81 : decode cX13_ofLibraryNow 81 = .ok (.aload_n 0, 1) := by decide +kernel
theorem dX13_ofLibraryNow_82 : decode cX13_ofLibraryNow 82 = .ok (.iload_n 1, 1) := by decide +kernel
theorem dX13_ofLibraryNow_83 : decode cX13_ofLibraryNow 83 = .ok (.invokevirtual 216, 3) := by decide +kernel
theorem dX13_ofLibraryNow_86 : decode cX13_ofLibraryNow 86 = .ok (.ifCond .eq 12, 3) := by decide +kernel
theorem dX13_ofLibraryNow_89 : decode cX13_ofLibraryNow 89 = .ok (.aload_n 0, 1) := by decide +kernel
theorem dX13_ofLibraryNow_90 : decode cX13_ofLibraryNow 90 = .ok (.getfield 66, 3) := by decide +kernel
theorem dX13_ofLibraryNow_93 : decode cX13_ofLibraryNow 93 = .ok (.iload_n 1, 1) := by decide +kernel
theorem dX13_ofLibraryNow_94 : decode cX13_ofLibraryNow 94 = .ok (.iaload, 1) := by decide +kernel
theorem dX13_ofLibraryNow_95 : decode cX13_ofLibraryNow 95 = .ok (.goto 4, 3) := by decide +kernel
theorem dX13_ofLibraryNow_98 : decode cX13_ofLibraryNow 98 = .ok (.iconst (-1), 1) := by decide +kernel
theorem dX13_ofLibraryNow_99 : decode cX13_ofLibraryNow 99 = .ok (.ireturn, 1) := by decide +kernel
theorem dX13_ofLibraryNow_100 : decode cX13_ofLibraryNow 100 = .ok (.aload_n 0, 1) := by decide +kernel
theorem dX13_ofLibraryNow_101 : decode cX13_ofLibraryNow 101 = .ok (.getfield 75, 3) := by decide +kernel
theorem dX13_ofLibraryNow_104 : decode cX13_ofLibraryNow 104 = .ok (.iload_n 1, 1) := by decide +kernel
theorem dX13_ofLibraryNow_105 : decode cX13_ofLibraryNow 105 = .ok (.invokestatic 212, 3) := by decide +kernel
theorem dX13_ofLibraryNow_108 : decode cX13_ofLibraryNow 108 = .ok (.ireturn, 1) := by decide +kernel
theorem dX13_ofLibraryNow_109 : decode cX13_ofLibraryNow 109 = .ok (.aload_n 0, 1) := by decide +kernel
theorem dX13_ofLibraryNow_110 : decode cX13_ofLibraryNow 110 = .ok (.getfield 78, 3) := by decide +kernel
theorem dX13_ofLibraryNow_113 : decode cX13_ofLibraryNow 113 = .ok (.iload_n 1, 1) := by decide +kernel
theorem dX13_ofLibraryNow_114 : decode cX13_ofLibraryNow 114 = .ok (.invokestatic 212, 3) := by decide +kernel
theorem dX13_ofLibraryNow_117 : decode cX13_ofLibraryNow 117 = .ok (.ireturn, 1) := by decide +kernel
def g_X13_ofLibraryNow : Nat → EA := (t_n 78 (t_n 58 (t_n 50 (t_n 45 (t_n 1 (t_l 0 (a_iload 1 2)) (t_n 44 (t_l 1 (a_tsw 0 [44, 51, 57, 67, 74, 81, 100] 109)) (t_l 44 (a_aload 1 0)))) (t_n 48 (t_l 45 (a_getf 13 21)) (t_n 49 (t_l 48 (a_iload 1 1)) (t_l 49 (a_ild 0))))) (t_n 53 (t_n 51 (t_l 50 a_iret) (t_n 52 (t_l 51 (a_aload 1 0)) (t_l 52 (a_iload 1 1)))) (t_n 56 (t_l 53 (a_inv true 277 2 (some 13))) (t_n 57 (t_l 56 a_iret) (t_l 57 (a_aload 1 0)))))) (t_n 68 (t_n 63 (t_n 61 (t_l 58 (a_getf 13 23)) (t_n 62 (t_l 61 (a_iload 1 1)) (t_l 62 (a_ild 0)))) (t_n 66 (t_l 63 (a_inv true 278 1 none)) (t_n 67 (t_l 66 a_iret) (t_l 67 (a_aload 1 0))))) (t_n 73 (t_n 71 (t_l 68 (a_getf 13 22)) (t_n 72 (t_l 71 (a_iload 1 1)) (t_l 72 (a_ild 0)))) (t_n 74 (t_l 73 a_iret) (t_n 75 (t_l 74 (a_aload 1 0)) (t_l 75 (a_getf 13 24))))))) (t_n 98 (t_n 86 (t_n 81 (t_n 79 (t_l 78 (a_iload 1 1)) (t_n 80 (t_l 79 (a_ild 0)) (t_l 80 a_iret))) (t_n 82 (t_l 81 (a_aload 1 0)) (t_n 83 (t_l 82 (a_iload 1 1)) (t_l 83 (a_inv true 261 2 (some 13)))))) (t_n 93 (t_n 89 (t_l 86 (a_if 98 (fun x => decide (x = 0)))) (t_n 90 (t_l 89 (a_aload 1 0)) (t_l 90 (a_getf 13 25)))) (t_n 94 (t_l 93 (a_iload 1 1)) (t_n 95 (t_l 94 (a_ild 0)) (t_l 95 (a_goto 99)))))) (t_n 108 (t_n 101 (t_n 99 (t_l 98 (a_push 1 (.int (-1)))) (t_n 100 (t_l 99 a_iret) (t_l 100 (a_aload 1 0)))) (t_n 104 (t_l 101 (a_getf 13 28)) (t_n 105 (t_l 104 (a_iload 1 1)) (t_l 105 (a_inv true 264 2 none))))) (t_n 113 (t_n 109 (t_l 108 a_iret) (t_n 110 (t_l 109 (a_aload 1 0)) (t_l 110 (a_getf 13 29)))) (t_n 114 (t_l 113 (a_iload 1 1)) (t_n 117 (t_l 114 (a_inv true 264 2 none)) (t_l 117 a_iret)))))))
set_option maxRecDepth 100000 in
theorem k_X13_ofLibraryNow (d : Nat) : ∀ pc, ev_Ok cX13_ofLibraryNow 3 [] RX13 lw_g lw_n lw_q vwCl false (ev_CO mt lw_g lw_n lw_q vwCl d) pc (g_X13_ofLibraryNow pc) := (ok_t_n (ok_t_n (ok_t_n (ok_t_n (ok_t_n (ok_t_l (ok_iload_n dX13_ofLibraryNow_0 rfl)) (ok_t_n (ok_t_l (ok_tsw dX13_ofLibraryNow_1 rfl rfl rfl)) (ok_t_l (ok_aload_n dX13_ofLibraryNow_44 rfl)))) (ok_t_n (ok_t_l (ok_getfield dX13_ofLibraryNow_45 (ci := 13) (kf := 21) rfl inGX13 (by decide) w_1594)) (ok_t_n (ok_t_l (ok_iload_n dX13_ofLibraryNow_48 rfl)) (ok_t_l (ok_iaload dX13_ofLibraryNow_49))))) (ok_t_n (ok_t_n (ok_t_l (ok_ireturn dX13_ofLibraryNow_50)) (ok_t_n (ok_t_l (ok_aload_n dX13_ofLibraryNow_51 rfl)) (ok_t_l (ok_iload_n dX13_ofLibraryNow_52 rfl)))) (ok_t_n (ok_t_l (ok_inv (run_V (y := 277) (n := 1) (ci := 13) dX13_ofLibraryNow_53 cz_277 gdG cc_277 ci_277 w_2049 cm_277 cs_277 cd_277 cl_277 rfl rfl))) (ok_t_n (ok_t_l (ok_ireturn dX13_ofLibraryNow_56)) (ok_t_l (ok_aload_n dX13_ofLibraryNow_57 rfl)))))) (ok_t_n (ok_t_n (ok_t_n (ok_t_l (ok_getfield dX13_ofLibraryNow_58 (ci := 13) (kf := 23) rfl inGX13 (by decide) w_1596)) (ok_t_n (ok_t_l (ok_iload_n dX13_ofLibraryNow_61 rfl)) (ok_t_l (ok_iaload dX13_ofLibraryNow_62)))) (ok_t_n (ok_t_l (ok_inv (run_S (y := 278) (n := 1) dX13_ofLibraryNow_63 cz_278 gdG cc_278 ci_278 w_2053 cm_278 cd_278 cl_278))) (ok_t_n (ok_t_l (ok_ireturn dX13_ofLibraryNow_66)) (ok_t_l (ok_aload_n dX13_ofLibraryNow_67 rfl))))) (ok_t_n (ok_t_n (ok_t_l (ok_getfield dX13_ofLibraryNow_68 (ci := 13) (kf := 22) rfl inGX13 (by decide) w_1595)) (ok_t_n (ok_t_l (ok_iload_n dX13_ofLibraryNow_71 rfl)) (ok_t_l (ok_iaload dX13_ofLibraryNow_72)))) (ok_t_n (ok_t_l (ok_ireturn dX13_ofLibraryNow_73)) (ok_t_n (ok_t_l (ok_aload_n dX13_ofLibraryNow_74 rfl)) (ok_t_l (ok_getfield dX13_ofLibraryNow_75 (ci := 13) (kf := 24) rfl inGX13 (by decide) w_1597))))))) (ok_t_n (ok_t_n (ok_t_n (ok_t_n (ok_t_l (ok_iload_n dX13_ofLibraryNow_78 rfl)) (ok_t_n (ok_t_l (ok_iaload dX13_ofLibraryNow_79)) (ok_t_l (ok_ireturn dX13_ofLibraryNow_80)))) (ok_t_n (ok_t_l (ok_aload_n dX13_ofLibraryNow_81 rfl)) (ok_t_n (ok_t_l (ok_iload_n dX13_ofLibraryNow_82 rfl)) (ok_t_l (ok_inv (run_V (y := 261) (n := 1) (ci := 13) dX13_ofLibraryNow_83 cz_261 gdG cc_261 ci_261 w_1998 cm_261 cs_261 cd_261 cl_261 rfl rfl)))))) (ok_t_n (ok_t_n (ok_t_l (ok_if_eq dX13_ofLibraryNow_86 rfl)) (ok_t_n (ok_t_l (ok_aload_n dX13_ofLibraryNow_89 rfl)) (ok_t_l (ok_getfield dX13_ofLibraryNow_90 (ci := 13) (kf := 25) rfl inGX13 (by decide) w_1598)))) (ok_t_n (ok_t_l (ok_iload_n dX13_ofLibraryNow_93 rfl)) (ok_t_n (ok_t_l (ok_iaload dX13_ofLibraryNow_94)) (ok_t_l (ok_goto dX13_ofLibraryNow_95 rfl)))))) (ok_t_n (ok_t_n (ok_t_n (ok_t_l (ok_iconst dX13_ofLibraryNow_98 rfl)) (ok_t_n (ok_t_l (ok_ireturn dX13_ofLibraryNow_99)) (ok_t_l (ok_aload_n dX13_ofLibraryNow_100 rfl)))) (ok_t_n (ok_t_l (ok_getfield dX13_ofLibraryNow_101 (ci := 13) (kf := 28) rfl inGX13 (by decide) w_1601)) (ok_t_n (ok_t_l (ok_iload_n dX13_ofLibraryNow_104 rfl)) (ok_t_l (ok_inv (run_S (y := 264) (n := 2) dX13_ofLibraryNow_105 cz_264 gdG cc_264 ci_264 w_1991 cm_264 cd_264 cl_264)))))) (ok_t_n (ok_t_n (ok_t_l (ok_ireturn dX13_ofLibraryNow_108)) (ok_t_n (ok_t_l (ok_aload_n dX13_ofLibraryNow_109 rfl)) (ok_t_l (ok_getfield dX13_ofLibraryNow_110 (ci := 13) (kf := 29) rfl inGX13 (by decide) w_1602)))) (ok_t_n (ok_t_l (ok_iload_n dX13_ofLibraryNow_113 rfl)) (ok_t_n (ok_t_l (ok_inv (run_S (y := 264) (n := 2) dX13_ofLibraryNow_114 cz_264 gdG cc_264 ci_264 w_1991 cm_264 cd_264 cl_264))) (ok_t_l (ok_ireturn dX13_ofLibraryNow_117))))))))
theorem dX13_ofLibrary_0 : decode cX13_ofLibrary 0 = .ok (.aload_n 0, 1) := by decide +kernel
theorem dX13_ofLibrary_1 : decode cX13_ofLibrary 1 = .ok (.iconst 0, 1) := by decide +kernel
theorem dX13_ofLibrary_2 : decode cX13_ofLibrary 2 = .ok (.putfield 81, 3) := by decide +kernel
theorem dX13_ofLibrary_5 : decode cX13_ofLibrary 5 = .ok (.aload_n 0, 1) := by decide +kernel
theorem dX13_ofLibrary_6 : decode cX13_ofLibrary 6 = .ok (.iload_n 1, 1) := by decide +kernel
theorem dX13_ofLibrary_7 : decode cX13_ofLibrary 7 = .ok (.invokevirtual 223, 3) := by decide +kernel
theorem dX13_ofLibrary_10 : decode cX13_ofLibrary 10 = .ok (.ifCond .ne 9, 3) := by decide +kernel
theorem dX13_ofLibrary_13 : decode cX13_ofLibrary 13 = .ok (.aload_n 0, 1) := by decide +kernel
theorem dX13_ofLibrary_14 : decode cX13_ofLibrary 14 = .ok (.iconst 1, 1) := by decide +kernel
theorem dX13_ofLibrary_15 : decode cX13_ofLibrary 15 = .ok (.invokevirtual 94, 3) := by decide +kernel
theorem dX13_ofLibrary_18 : decode cX13_ofLibrary 18 = .ok (.ireturn, 1) := by decide +kernel
theorem dX13_ofLibrary_19 : decode cX13_ofLibrary 19 = .ok (.iload_n 2, 1) := by decide +kernel
theorem dX13_ofLibrary_20 : decode cX13_ofLibrary 20 = .ok (.iconst 0, 1) := by decide +kernel
theorem dX13_ofLibrary_21 : decode cX13_ofLibrary 21 = .ok (.bipush 7, 2) := by decide +kernel
theorem dX13_ofLibrary_23 : decode cX13_ofLibrary 23 = .ok (.invokestatic 87, 3) := by decide +kernel
theorem dX13_ofLibrary_26 : decode cX13_ofLibrary 26 = .ok (.ifCond .eq 12, 3) := by decide +kernel
theorem dX13_ofLibrary_29 : decode cX13_ofLibrary 29 = .ok (.aload_n 0, 1) := by decide +kernel
theorem dX13_ofLibrary_30 : decode cX13_ofLibrary 30 = .ok (.iload_n 1, 1) := by decide +kernel
theorem dX13_ofLibrary_31 : decode cX13_ofLibrary 31 = .ok (.iload_n 2, 1) := by decide +kernel
theorem dX13_ofLibrary_32 : decode cX13_ofLibrary 32 = .ok (.invokevirtual 255, 3) := by decide +kernel
theorem dX13_ofLibrary_35 : decode cX13_ofLibrary 35 = .ok (.goto 8, 3) := by decide +kernel
theorem dX13_ofLibrary_38 : decode cX13_ofLibrary 38 = .ok (.aload_n 0, 1) := by decide +kernel
theorem dX13_ofLibrary_39 : decode cX13_ofLibrary 39 = .ok (.iconst 2, 1) := by decide +kernel
theorem dX13_ofLibrary_40 : decode cX13_ofLibrary 40 = .ok (.invokevirtual 94, 3) := by decide +kernel
theorem dX13_ofLibrary_43 : decode cX13_ofLibrary 43 = .ok (.ireturn, 1) := by decide +kernel
def g_X13_ofLibrary : Nat → EA := (t_n 20 (t_n 10 (t_n 5 (t_n 1 (t_l 0 (a_aload 1 0)) (t_n 2 (t_l 1 (a_push 1 (.int 0))) (t_l 2 (a_putf 0 13 0)))) (t_n 6 (t_l 5 (a_aload 1 0)) (t_n 7 (t_l 6 (a_iload 1 1)) (t_l 7 (a_inv true 260 2 (some 13)))))) (t_n 15 (t_n 13 (t_l 10 (a_if 19 (fun x => !decide (x = 0)))) (t_n 14 (t_l 13 (a_aload 1 0)) (t_l 14 (a_push 1 (.int 1))))) (t_n 18 (t_l 15 (a_inv true 229 2 (some 13))) (t_n 19 (t_l 18 a_iret) (t_l 19 (a_iload 1 2)))))) (t_n 31 (t_n 26 (t_n 21 (t_l 20 (a_push 1 (.int 0))) (t_n 23 (t_l 21 (a_push 2 (.int 7))) (t_l 23 (a_inv true 230 3 none)))) (t_n 29 (t_l 26 (a_if 38 (fun x => decide (x = 0)))) (t_n 30 (t_l 29 (a_aload 1 0)) (t_l 30 (a_iload 1 1))))) (t_n 38 (t_n 32 (t_l 31 (a_iload 1 2)) (t_n 35 (t_l 32 (a_inv true 279 3 (some 13))) (t_l 35 (a_goto 43)))) (t_n 40 (t_n 39 (t_l 38 (a_aload 1 0)) (t_l 39 (a_push 1 (.int 2)))) (t_n 43 (t_l 40 (a_inv true 229 2 (some 13))) (t_l 43 a_iret))))))
set_option maxRecDepth 100000 in
theorem k_X13_ofLibrary (d : Nat) : ∀ pc, ev_Ok cX13_ofLibrary 3 [] RX13 lw_g lw_n lw_q vwCl false (ev_CO mt lw_g lw_n lw_q vwCl d) pc (g_X13_ofLibrary pc) := (ok_t_n (ok_t_n (ok_t_n (ok_t_n (ok_t_l (ok_aload_n dX13_ofLibrary_0 rfl)) (ok_t_n (ok_t_l (ok_iconst dX13_ofLibrary_1 rfl)) (ok_t_l (ok_putfield dX13_ofLibrary_2 (ci := 13) (kf := 0) rfl inGX13 (by decide) tyX13_ok nmX13 rfl w_1559 rfl)))) (ok_t_n (ok_t_l (ok_aload_n dX13_ofLibrary_5 rfl)) (ok_t_n (ok_t_l (ok_iload_n dX13_ofLibrary_6 rfl)) (ok_t_l (ok_inv (run_V (y := 260) (n := 1) (ci := 13) dX13_ofLibrary_7 cz_260 gdG cc_260 ci_260 w_1983 cm_260 cs_260 cd_260 cl_260 rfl rfl)))))) (ok_t_n (ok_t_n (ok_t_l (ok_if_ne dX13_ofLibrary_10 rfl)) (ok_t_n (ok_t_l (ok_aload_n dX13_ofLibrary_13 rfl)) (ok_t_l (ok_iconst dX13_ofLibrary_14 rfl)))) (ok_t_n (ok_t_l (ok_inv (run_V (y := 229) (n := 1) (ci := 13) dX13_ofLibrary_15 cz_229 gdG cc_229 ci_229 w_1672 cm_229 cs_229 cd_229 cl_229 rfl rfl))) (ok_t_n (ok_t_l (ok_ireturn dX13_ofLibrary_18)) (ok_t_l (ok_iload_n dX13_ofLibrary_19 rfl)))))) (ok_t_n (ok_t_n (ok_t_n (ok_t_l (ok_iconst dX13_ofLibrary_20 rfl)) (ok_t_n (ok_t_l (ok_bipush dX13_ofLibrary_21 rfl)) (ok_t_l (ok_inv (run_S (y := 230) (n := 3) dX13_ofLibrary_23 cz_230 gdG cc_230 ci_230 w_1684 cm_230 cd_230 cl_230))))) (ok_t_n (ok_t_l (ok_if_eq dX13_ofLibrary_26 rfl)) (ok_t_n (ok_t_l (ok_aload_n dX13_ofLibrary_29 rfl)) (ok_t_l (ok_iload_n dX13_ofLibrary_30 rfl))))) (ok_t_n (ok_t_n (ok_t_l (ok_iload_n dX13_ofLibrary_31 rfl)) (ok_t_n (ok_t_l (ok_inv (run_V (y := 279) (n := 2) (ci := 13) dX13_ofLibrary_32 cz_279 gdG cc_279 ci_279 w_2045 cm_279 cs_279 cd_279 cl_279 rfl rfl))) (ok_t_l (ok_goto dX13_ofLibrary_35 rfl)))) (ok_t_n (ok_t_n (ok_t_l (ok_aload_n dX13_ofLibrary_38 rfl)) (ok_t_l (ok_iconst dX13_ofLibrary_39 rfl))) (ok_t_n (ok_t_l (ok_inv (run_V (y := 229) (n := 1) (ci := 13) dX13_ofLibrary_40 cz_229 gdG cc_229 ci_229 w_1672 cm_229 cs_229 cd_229 cl_229 rfl rfl))) (ok_t_l (ok_ireturn dX13_ofLibrary_43)))))))
theorem dX13_manyNow_0 : decode cX13_manyNow 0 = .ok (.iconst 0, 1) := by decide +kernel
theorem dX13_manyNow_1 : decode cX13_manyNow 1 = .ok (.istore_n 2, 1) := by decide +kernel
theorem dX13_manyNow_2 : decode cX13_manyNow 2 = .ok (.iload_n 1, 1) := by decide +kernel
theorem dX13_manyNow_3 : decode cX13_manyNow 3 = .ok (.tableswitch 140 0 6 #[41, 46, 51, 56, 61, 95, 101], 41) := by decide +kernel
theorem dX13_manyNow_44 : decode cX13_manyNow 44 = .ok (.aload_n 0, 1) := by decide +kernel
theorem dX13_manyNow_45 : decode cX13_manyNow 45 = .ok (.getfield 84, 3) := by decide +kernel
theorem dX13_manyNow_48 : decode cX13_manyNow 48 = .ok (.ireturn, 1) := by decide +kernel
theorem dX13_manyNow_49 : decode cX13_manyNow 49 = .ok (.aload_n 0, 1) := by decide +kernel
theorem dX13_manyNow_50 : decode cX13_manyNow 50 = .ok (.getfield 91, 3) := by decide +kernel
theorem dX13_manyNow_53 : decode cX13_manyNow 53 = .ok (.ireturn, 1) := by decide +kernel
theorem dX13_manyNow_54 : decode cX13_manyNow 54 = .ok (.aload_n 0, 1) := by decide +kernel
theorem dX13_manyNow_55 : decode cX13_manyNow 55 = .ok (.getfield 122, 3) := by decide +kernel
theorem dX13_manyNow_58 : decode cX13_manyNow 58 = .ok (.ireturn, 1) := by decide +kernel
theorem dX13_manyNow_59 : decode cX13_manyNow 59 = .ok (.aload_n 0, 1) := by decide +kernel
theorem dX13_manyNow_60 : decode cX13_manyNow 60 = .ok (.getfield 188, 3) := by decide +kernel
theorem dX13_manyNow_63 : decode cX13_manyNow 63 = .ok (.ireturn, 1) := by decide +kernel
theorem dX13_manyNow_64 : decode cX13_manyNow 64 = .ok (.iconst 0, 1) := by decide +kernel
theorem dX13_manyNow_65 : decode cX13_manyNow 65 = .ok (.istore_n 3, 1) := by decide +kernel
theorem dX13_manyNow_66 : decode cX13_manyNow 66 = .ok (.iload_n 3, 1) := by decide +kernel
theorem dX13_manyNow_67 : decode cX13_manyNow 67 = .ok (.aload_n 0, 1) := by decide +kernel
theorem dX13_manyNow_68 : decode cX13_manyNow 68 = .ok (.getfield 188, 3) := by decide +kernel
theorem dX13_manyNow_71 : decode cX13_manyNow 71 = .ok (.if_icmp .ge 25, 3) := by decide +kernel
theorem dX13_manyNow_74 : decode cX13_manyNow 74 = .ok (.iload_n 2, 1) := by decide +kernel
theorem dX13_manyNow_75 : decode cX13_manyNow 75 = .ok (.aload_n 0, 1) := by decide +kernel
theorem dX13_manyNow_76 : decode cX13_manyNow 76 = .ok (.iload_n 3, 1) := by decide +kernel
theorem dX13_manyNow_77 : decode cX13_manyNow 77 = .ok (.invokevirtual 216, 3) := by decide +kernel
theorem dX13_manyNow_80 : decode cX13_manyNow 80 = .ok (.ifCond .eq 7, 3) := by decide +kernel
theorem dX13_manyNow_83 : decode cX13_manyNow 83 = .ok (.iconst 1, 1) := by decide +kernel
theorem dX13_manyNow_84 : decode cX13_manyNow 84 = .ok (.goto 4, 3) := by decide +kernel
theorem dX13_manyNow_87 : decode cX13_manyNow 87 = .ok (.iconst 0, 1) := by decide +kernel
theorem dX13_manyNow_88 : decode cX13_manyNow 88 = .ok (.iadd, 1) := by decide +kernel
theorem dX13_manyNow_89 : decode cX13_manyNow 89 = .ok (.istore_n 2, 1) := by decide +kernel
theorem dX13_manyNow_90 : decode cX13_manyNow 90 = .ok (.iinc 3 1, 3) := by decide +kernel
theorem dX13_manyNow_93 : decode cX13_manyNow 93 = .ok (.goto (-27), 3) := by decide +kernel
theorem dX13_manyNow_96 : decode cX13_manyNow 96 = .ok (.iload_n 2, 1) := by decide +kernel
theorem dX13_manyNow_97 : decode cX13_manyNow 97 = .ok (.ireturn, 1) := by decide +kernel
theorem dX13_manyNow_98 : decode cX13_manyNow 98 = .ok (.aload_n 0, 1) := by decide +kernel
theorem dX13_manyNow_99 : decode cX13_manyNow 99 = .ok (.getfield 75, 3) := by decide +kernel
theorem dX13_manyNow_102 : decode cX13_manyNow 102 = .ok (.arraylength, 1) := by decide +kernel
theorem dX13_manyNow_103 : decode cX13_manyNow 103 = .ok (.ireturn, 1) := by decide +kernel
theorem dX13_manyNow_104 : decode cX13_manyNow 104 = .ok (.iconst 0, 1) := by decide +kernel
theorem dX13_manyNow_105 : decode cX13_manyNow 105 = .ok (.istore_n 3, 1) := by decide +kernel
theorem dX13_manyNow_106 : decode cX13_manyNow 106 = .ok (.iload_n 3, 1) := by decide +kernel
theorem dX13_manyNow_107 : decode cX13_manyNow 107 = .ok (.aload_n 0, 1) := by decide +kernel
theorem dX13_manyNow_108 : decode cX13_manyNow 108 = .ok (.getfield 188, 3) := by decide +kernel
theorem dX13_manyNow_111 : decode cX13_manyNow 111 = .ok (.bipush 20, 2) := by decide +kernel
theorem dX13_manyNow_113 : decode cX13_manyNow 113 = .ok (.imul, 1) := by decide +kernel
theorem dX13_manyNow_114 : decode cX13_manyNow 114 = .ok (.if_icmp .ge 27, 3) := by decide +kernel
theorem dX13_manyNow_117 : decode cX13_manyNow 117 = .ok (.iload_n 2, 1) := by decide +kernel
theorem dX13_manyNow_118 : decode cX13_manyNow 118 = .ok (.aload_n 0, 1) := by decide +kernel
theorem dX13_manyNow_119 : decode cX13_manyNow 119 = .ok (.getfield 72, 3) := by decide +kernel
theorem dX13_manyNow_122 : decode cX13_manyNow 122 = .ok (.iload_n 3, 1) := by decide +kernel
theorem dX13_manyNow_123 : decode cX13_manyNow 123 = .ok (.iaload, 1) := by decide +kernel
theorem dX13_manyNow_124 : decode cX13_manyNow 124 = .ok (.iconst (-1), 1) := by decide +kernel
theorem dX13_manyNow_125 : decode cX13_manyNow 125 = .ok (.if_icmp .ne 7, 3) := by decide +kernel
theorem dX13_manyNow_128 : decode cX13_manyNow 128 = .ok (.iconst 0, 1) := by decide +kernel
theorem dX13_manyNow_129 : decode cX13_manyNow 129 = .ok (.goto 4, 3) := by decide +kernel
theorem dX13_manyNow_132 : decode cX13_manyNow 132 = .ok (.iconst 1, 1) := by decide +kernel
theorem dX13_manyNow_133 : decode cX13_manyNow 133 = .ok (.iadd, 1) := by decide +kernel
theorem dX13_manyNow_134 : decode cX13_manyNow 134 = .ok (.istore_n 2, 1) := by decide +kernel
theorem dX13_manyNow_135 : decode cX13_manyNow 135 = .ok (.iinc 3 1, 3) := by decide +kernel
theorem dX13_manyNow_138 : decode cX13_manyNow 138 = .ok (.goto (-32), 3) := by decide +kernel
theorem dX13_manyNow_141 : decode cX13_manyNow 141 = .ok (.iload_n 2, 1) := by decide +kernel
theorem dX13_manyNow_142 : decode cX13_manyNow 142 = .ok (.ireturn, 1) := by decide +kernel
theorem dX13_manyNow_143 : decode cX13_manyNow 143 = .ok (.aload_n 0, 1) := by decide +kernel
theorem dX13_manyNow_144 : decode cX13_manyNow 144 = .ok (.getfield 135, 3) := by decide +kernel
theorem dX13_manyNow_147 : decode cX13_manyNow 147 = .ok (.ifCond .ne 5, 3) := by decide +kernel
theorem dX13_manyNow_150 : decode cX13_manyNow 150 = .ok (.iconst 0, 1) := by decide +kernel
theorem dX13_manyNow_151 : decode cX13_manyNow 151 = .ok (.ireturn, 1) := by decide +kernel
theorem dX13_manyNow_152 : decode cX13_manyNow 152 = .ok (.iload_n 1, 1) := by decide +kernel
theorem dX13_manyNow_153 : decode cX13_manyNow 153 = .ok (.bipush 7, 2) := by decide +kernel
theorem dX13_manyNow_155 : decode cX13_manyNow 155 = .ok (.if_icmp .ne 13, 3) := by decide +kernel
theorem dX13_manyNow_158 : decode cX13_manyNow 158 = .ok (.aload_n 0, 1) := by decide +kernel
theorem dX13_manyNow_159 : decode cX13_manyNow 159 = .ok (.getfield 139, 3) := by decide +kernel
theorem dX13_manyNow_162 : decode cX13_manyNow 162 = .ok (.getfield 258, 3) := by decide +kernel
theorem dX13_manyNow_165 : decode cX13_manyNow 165 = .ok (.goto 77, 3) := by decide +kernel
theorem dX13_manyNow_168 : decode cX13_manyNow 168 = .ok (.iload_n 1, 1) := by decide +kernel
theorem dX13_manyNow_169 : decode cX13_manyNow 169 = .ok (.bipush 8, 2) := by decide +kernel
theorem dX13_manyNow_171 : decode cX13_manyNow 171 = .ok (.if_icmp .ne 13, 3) := by decide +kernel
theorem dX13_manyNow_174 : decode cX13_manyNow 174 = .ok (.aload_n 0, 1) := by decide +kernel
theorem dX13_manyNow_175 : decode cX13_manyNow 175 = .ok (.getfield 139, 3) := by decide +kernel
theorem dX13_manyNow_178 : decode cX13_manyNow 178 = .ok (.invokevirtual 261, 3) := by decide +kernel
theorem dX13_manyNow_181 : decode cX13_manyNow 181 = .ok (.goto 61, 3) := by decide +kernel
theorem dX13_manyNow_184 : decode cX13_manyNow 184 = .ok (.iload_n 1, 1) := by decide +kernel
theorem dX13_manyNow_185 : decode cX13_manyNow 185 = .ok (.bipush 9, 2) := by decide +kernel
theorem dX13_manyNow_187 : decode cX13_manyNow 187 = .ok (.if_icmp .ne 13, 3) := by decide +kernel
theorem dX13_manyNow_190 : decode cX13_manyNow 190 = .ok (.aload_n 0, 1) := by decide +kernel
theorem dX13_manyNow_191 : decode cX13_manyNow 191 = .ok (.getfield 139, 3) := by decide +kernel
theorem dX13_manyNow_194 : decode cX13_manyNow 194 = .ok (.getfield 182, 3) := by decide +kernel
theorem dX13_manyNow_197 : decode cX13_manyNow 197 = .ok (.goto 45, 3) := by decide +kernel
theorem dX13_manyNow_200 : decode cX13_manyNow 200 = .ok (.iload_n 1, 1) := by decide +kernel
theorem dX13_manyNow_201 : decode cX13_manyNow 201 = .ok (.bipush 10, 2) := by decide +kernel
theorem dX13_manyNow_203 : decode cX13_manyNow 203 = .ok (.if_icmp .ne 13, 3) := by decide +kernel
theorem dX13_manyNow_206 : decode cX13_manyNow 206 = .ok (.aload_n 0, 1) := by decide +kernel
theorem dX13_manyNow_207 : decode cX13_manyNow 207 = .ok (.getfield 139, 3) := by decide +kernel
theorem dX13_manyNow_210 : decode cX13_manyNow 210 = .ok (.getfield 158, 3) := by decide +kernel
theorem dX13_manyNow_213 : decode cX13_manyNow 213 = .ok (.goto 29, 3) := by decide +kernel
theorem dX13_manyNow_216 : decode cX13_manyNow 216 = .ok (.iload_n 1, 1) := by decide +kernel
theorem dX13_manyNow_217 : decode cX13_manyNow 217 = .ok (.bipush 11, 2) := by decide +kernel
theorem dX13_manyNow_219 : decode cX13_manyNow 219 = .ok (.if_icmp .ne 13, 3) := by decide +kernel
theorem dX13_manyNow_222 : decode cX13_manyNow 222 = .ok (.aload_n 0, 1) := by decide +kernel
theorem dX13_manyNow_223 : decode cX13_manyNow 223 = .ok (.getfield 139, 3) := by decide +kernel
theorem dX13_manyNow_226 : decode cX13_manyNow 226 = .ok (.invokevirtual 264, 3) := by decide +kernel
theorem dX13_manyNow_229 : decode cX13_manyNow 229 = .ok (.goto 13, 3) := by decide +kernel
theorem dX13_manyNow_232 : decode cX13_manyNow 232 = .ok (.aload_n 0, 1) := by decide +kernel
theorem dX13_manyNow_233 : decode cX13_manyNow 233 = .ok (.getfield 139, 3) := by decide +kernel
theorem dX13_manyNow_236 : decode cX13_manyNow 236 = .ok (.getfield 194, 3) := by decide +kernel
theorem dX13_manyNow_239 : decode cX13_manyNow 239 = .ok (.invokestatic 252, 3) := by decide +kernel
theorem dX13_manyNow_242 : decode cX13_manyNow 242 = .ok (.ireturn, 1) := by decide +kernel
def g_X13_manyNow : Nat → EA := (t_n 125 (t_n 83 (t_n 59 (t_n 48 (t_n 3 (t_n 1 (t_l 0 (a_push 1 (.int 0))) (t_n 2 (t_l 1 (a_istore 4 1 2)) (t_l 2 (a_iload 1 1)))) (t_n 44 (t_l 3 (a_tsw 0 [44, 49, 54, 59, 64, 98, 104] 143)) (t_n 45 (t_l 44 (a_aload 1 0)) (t_l 45 (a_getf 13 1))))) (t_n 53 (t_n 49 (t_l 48 a_iret) (t_n 50 (t_l 49 (a_aload 1 0)) (t_l 50 (a_getf 13 2)))) (t_n 55 (t_n 54 (t_l 53 a_iret) (t_l 54 (a_aload 1 0))) (t_n 58 (t_l 55 (a_getf 13 3)) (t_l 58 a_iret))))) (t_n 68 (t_n 64 (t_n 60 (t_l 59 (a_aload 1 0)) (t_n 63 (t_l 60 (a_getf 13 20)) (t_l 63 a_iret))) (t_n 66 (t_n 65 (t_l 64 (a_push 1 (.int 0))) (t_l 65 (a_istore 4 1 3))) (t_n 67 (t_l 66 (a_iload 1 3)) (t_l 67 (a_aload 1 0))))) (t_n 75 (t_n 71 (t_l 68 (a_getf 13 20)) (t_n 74 (t_l 71 (a_ic 96 (fun x y => decide (y ≤ x)))) (t_l 74 (a_iload 1 2)))) (t_n 77 (t_n 76 (t_l 75 (a_aload 1 0)) (t_l 76 (a_iload 1 3))) (t_n 80 (t_l 77 (a_inv true 261 2 (some 13))) (t_l 80 (a_if 87 (fun x => decide (x = 0))))))))) (t_n 104 (t_n 93 (t_n 88 (t_n 84 (t_l 83 (a_push 1 (.int 1))) (t_n 87 (t_l 84 (a_goto 88)) (t_l 87 (a_push 1 (.int 0))))) (t_n 89 (t_l 88 (a_ii 1 (fun x y => x + y))) (t_n 90 (t_l 89 (a_istore 4 1 2)) (t_l 90 (a_iinc 4 3 1))))) (t_n 98 (t_n 96 (t_l 93 (a_goto 66)) (t_n 97 (t_l 96 (a_iload 1 2)) (t_l 97 a_iret))) (t_n 102 (t_n 99 (t_l 98 (a_aload 1 0)) (t_l 99 (a_getf 13 28))) (t_n 103 (t_l 102 a_alen) (t_l 103 a_iret))))) (t_n 114 (t_n 107 (t_n 105 (t_l 104 (a_push 1 (.int 0))) (t_n 106 (t_l 105 (a_istore 4 1 3)) (t_l 106 (a_iload 1 3)))) (t_n 111 (t_n 108 (t_l 107 (a_aload 1 0)) (t_l 108 (a_getf 13 20))) (t_n 113 (t_l 111 (a_push 2 (.int 20))) (t_l 113 (a_ii 1 (fun x y => x * y)))))) (t_n 119 (t_n 117 (t_l 114 (a_ic 141 (fun x y => decide (y ≤ x)))) (t_n 118 (t_l 117 (a_iload 1 2)) (t_l 118 (a_aload 1 0)))) (t_n 123 (t_n 122 (t_l 119 (a_getf 13 27)) (t_l 122 (a_iload 1 3))) (t_n 124 (t_l 123 (a_ild 0)) (t_l 124 (a_push 1 (.int (-1)))))))))) (t_n 178 (t_n 150 (t_n 135 (t_n 132 (t_n 128 (t_l 125 (a_ic 132 (fun x y => !decide (x = y)))) (t_n 129 (t_l 128 (a_push 1 (.int 0))) (t_l 129 (a_goto 133)))) (t_n 133 (t_l 132 (a_push 1 (.int 1))) (t_n 134 (t_l 133 (a_ii 1 (fun x y => x + y))) (t_l 134 (a_istore 4 1 2))))) (t_n 142 (t_n 138 (t_l 135 (a_iinc 4 3 1)) (t_n 141 (t_l 138 (a_goto 106)) (t_l 141 (a_iload 1 2)))) (t_n 144 (t_n 143 (t_l 142 a_iret) (t_l 143 (a_aload 1 0))) (t_n 147 (t_l 144 (a_getf 13 17)) (t_l 147 (a_if 152 (fun x => !decide (x = 0)))))))) (t_n 162 (t_n 153 (t_n 151 (t_l 150 (a_push 1 (.int 0))) (t_n 152 (t_l 151 a_iret) (t_l 152 (a_iload 1 1)))) (t_n 158 (t_n 155 (t_l 153 (a_push 2 (.int 7))) (t_l 155 (a_ic 168 (fun x y => !decide (x = y))))) (t_n 159 (t_l 158 (a_aload 1 0)) (t_l 159 (a_getf 13 18))))) (t_n 169 (t_n 165 (t_l 162 (a_getf 12 4)) (t_n 168 (t_l 165 (a_goto 242)) (t_l 168 (a_iload 1 1)))) (t_n 174 (t_n 171 (t_l 169 (a_push 2 (.int 8))) (t_l 171 (a_ic 184 (fun x y => !decide (x = y))))) (t_n 175 (t_l 174 (a_aload 1 0)) (t_l 175 (a_getf 13 18))))))) (t_n 210 (t_n 194 (t_n 185 (t_n 181 (t_l 178 (a_inv false 226 1 (some 12))) (t_n 184 (t_l 181 (a_goto 242)) (t_l 184 (a_iload 1 1)))) (t_n 190 (t_n 187 (t_l 185 (a_push 2 (.int 9))) (t_l 187 (a_ic 200 (fun x y => !decide (x = y))))) (t_n 191 (t_l 190 (a_aload 1 0)) (t_l 191 (a_getf 13 18))))) (t_n 201 (t_n 197 (t_l 194 (a_getf 12 19)) (t_n 200 (t_l 197 (a_goto 242)) (t_l 200 (a_iload 1 1)))) (t_n 206 (t_n 203 (t_l 201 (a_push 2 (.int 10))) (t_l 203 (a_ic 216 (fun x y => !decide (x = y))))) (t_n 207 (t_l 206 (a_aload 1 0)) (t_l 207 (a_getf 13 18)))))) (t_n 226 (t_n 217 (t_n 213 (t_l 210 (a_getf 12 21)) (t_n 216 (t_l 213 (a_goto 242)) (t_l 216 (a_iload 1 1)))) (t_n 222 (t_n 219 (t_l 217 (a_push 2 (.int 11))) (t_l 219 (a_ic 232 (fun x y => !decide (x = y))))) (t_n 223 (t_l 222 (a_aload 1 0)) (t_l 223 (a_getf 13 18))))) (t_n 233 (t_n 229 (t_l 226 (a_inv false 224 1 (some 12))) (t_n 232 (t_l 229 (a_goto 242)) (t_l 232 (a_aload 1 0)))) (t_n 239 (t_n 236 (t_l 233 (a_getf 13 18)) (t_l 236 (a_getf 12 18))) (t_n 242 (t_l 239 (a_inv true 278 1 none)) (t_l 242 a_iret))))))))
set_option maxRecDepth 100000 in
theorem k_X13_manyNow (d : Nat) : ∀ pc, ev_Ok cX13_manyNow 4 [] RX13 lw_g lw_n lw_q vwCl false (ev_CO mt lw_g lw_n lw_q vwCl d) pc (g_X13_manyNow pc) := (ok_t_n (ok_t_n (ok_t_n (ok_t_n (ok_t_n (ok_t_n (ok_t_l (ok_iconst dX13_manyNow_0 rfl)) (ok_t_n (ok_t_l (ok_istore_n dX13_manyNow_1 rfl)) (ok_t_l (ok_iload_n dX13_manyNow_2 rfl)))) (ok_t_n (ok_t_l (ok_tsw dX13_manyNow_3 rfl rfl rfl)) (ok_t_n (ok_t_l (ok_aload_n dX13_manyNow_44 rfl)) (ok_t_l (ok_getfield dX13_manyNow_45 (ci := 13) (kf := 1) rfl inGX13 (by decide) w_1561))))) (ok_t_n (ok_t_n (ok_t_l (ok_ireturn dX13_manyNow_48)) (ok_t_n (ok_t_l (ok_aload_n dX13_manyNow_49 rfl)) (ok_t_l (ok_getfield dX13_manyNow_50 (ci := 13) (kf := 2) rfl inGX13 (by decide) w_1563)))) (ok_t_n (ok_t_n (ok_t_l (ok_ireturn dX13_manyNow_53)) (ok_t_l (ok_aload_n dX13_manyNow_54 rfl))) (ok_t_n (ok_t_l (ok_getfield dX13_manyNow_55 (ci := 13) (kf := 3) rfl inGX13 (by decide) w_1565)) (ok_t_l (ok_ireturn dX13_manyNow_58)))))) (ok_t_n (ok_t_n (ok_t_n (ok_t_l (ok_aload_n dX13_manyNow_59 rfl)) (ok_t_n (ok_t_l (ok_getfield dX13_manyNow_60 (ci := 13) (kf := 20) rfl inGX13 (by decide) w_1593)) (ok_t_l (ok_ireturn dX13_manyNow_63)))) (ok_t_n (ok_t_n (ok_t_l (ok_iconst dX13_manyNow_64 rfl)) (ok_t_l (ok_istore_n dX13_manyNow_65 rfl))) (ok_t_n (ok_t_l (ok_iload_n dX13_manyNow_66 rfl)) (ok_t_l (ok_aload_n dX13_manyNow_67 rfl))))) (ok_t_n (ok_t_n (ok_t_l (ok_getfield dX13_manyNow_68 (ci := 13) (kf := 20) rfl inGX13 (by decide) w_1593)) (ok_t_n (ok_t_l (ok_icmp_ge dX13_manyNow_71 rfl)) (ok_t_l (ok_iload_n dX13_manyNow_74 rfl)))) (ok_t_n (ok_t_n (ok_t_l (ok_aload_n dX13_manyNow_75 rfl)) (ok_t_l (ok_iload_n dX13_manyNow_76 rfl))) (ok_t_n (ok_t_l (ok_inv (run_V (y := 261) (n := 1) (ci := 13) dX13_manyNow_77 cz_261 gdG cc_261 ci_261 w_1998 cm_261 cs_261 cd_261 cl_261 rfl rfl))) (ok_t_l (ok_if_eq dX13_manyNow_80 rfl))))))) (ok_t_n (ok_t_n (ok_t_n (ok_t_n (ok_t_l (ok_iconst dX13_manyNow_83 rfl)) (ok_t_n (ok_t_l (ok_goto dX13_manyNow_84 rfl)) (ok_t_l (ok_iconst dX13_manyNow_87 rfl)))) (ok_t_n (ok_t_l (ok_iadd dX13_manyNow_88)) (ok_t_n (ok_t_l (ok_istore_n dX13_manyNow_89 rfl)) (ok_t_l (ok_iinc dX13_manyNow_90 rfl))))) (ok_t_n (ok_t_n (ok_t_l (ok_goto dX13_manyNow_93 rfl)) (ok_t_n (ok_t_l (ok_iload_n dX13_manyNow_96 rfl)) (ok_t_l (ok_ireturn dX13_manyNow_97)))) (ok_t_n (ok_t_n (ok_t_l (ok_aload_n dX13_manyNow_98 rfl)) (ok_t_l (ok_getfield dX13_manyNow_99 (ci := 13) (kf := 28) rfl inGX13 (by decide) w_1601))) (ok_t_n (ok_t_l (ok_arraylength dX13_manyNow_102)) (ok_t_l (ok_ireturn dX13_manyNow_103)))))) (ok_t_n (ok_t_n (ok_t_n (ok_t_l (ok_iconst dX13_manyNow_104 rfl)) (ok_t_n (ok_t_l (ok_istore_n dX13_manyNow_105 rfl)) (ok_t_l (ok_iload_n dX13_manyNow_106 rfl)))) (ok_t_n (ok_t_n (ok_t_l (ok_aload_n dX13_manyNow_107 rfl)) (ok_t_l (ok_getfield dX13_manyNow_108 (ci := 13) (kf := 20) rfl inGX13 (by decide) w_1593))) (ok_t_n (ok_t_l (ok_bipush dX13_manyNow_111 rfl)) (ok_t_l (ok_imul dX13_manyNow_113))))) (ok_t_n (ok_t_n (ok_t_l (ok_icmp_ge dX13_manyNow_114 rfl)) (ok_t_n (ok_t_l (ok_iload_n dX13_manyNow_117 rfl)) (ok_t_l (ok_aload_n dX13_manyNow_118 rfl)))) (ok_t_n (ok_t_n (ok_t_l (ok_getfield dX13_manyNow_119 (ci := 13) (kf := 27) rfl inGX13 (by decide) w_1600)) (ok_t_l (ok_iload_n dX13_manyNow_122 rfl))) (ok_t_n (ok_t_l (ok_iaload dX13_manyNow_123)) (ok_t_l (ok_iconst dX13_manyNow_124 rfl)))))))) (ok_t_n (ok_t_n (ok_t_n (ok_t_n (ok_t_n (ok_t_l (ok_icmp_ne dX13_manyNow_125 rfl)) (ok_t_n (ok_t_l (ok_iconst dX13_manyNow_128 rfl)) (ok_t_l (ok_goto dX13_manyNow_129 rfl)))) (ok_t_n (ok_t_l (ok_iconst dX13_manyNow_132 rfl)) (ok_t_n (ok_t_l (ok_iadd dX13_manyNow_133)) (ok_t_l (ok_istore_n dX13_manyNow_134 rfl))))) (ok_t_n (ok_t_n (ok_t_l (ok_iinc dX13_manyNow_135 rfl)) (ok_t_n (ok_t_l (ok_goto dX13_manyNow_138 rfl)) (ok_t_l (ok_iload_n dX13_manyNow_141 rfl)))) (ok_t_n (ok_t_n (ok_t_l (ok_ireturn dX13_manyNow_142)) (ok_t_l (ok_aload_n dX13_manyNow_143 rfl))) (ok_t_n (ok_t_l (ok_getfield dX13_manyNow_144 (ci := 13) (kf := 17) rfl inGX13 (by decide) w_1590)) (ok_t_l (ok_if_ne dX13_manyNow_147 rfl)))))) (ok_t_n (ok_t_n (ok_t_n (ok_t_l (ok_iconst dX13_manyNow_150 rfl)) (ok_t_n (ok_t_l (ok_ireturn dX13_manyNow_151)) (ok_t_l (ok_iload_n dX13_manyNow_152 rfl)))) (ok_t_n (ok_t_n (ok_t_l (ok_bipush dX13_manyNow_153 rfl)) (ok_t_l (ok_icmp_ne dX13_manyNow_155 rfl))) (ok_t_n (ok_t_l (ok_aload_n dX13_manyNow_158 rfl)) (ok_t_l (ok_getfield dX13_manyNow_159 (ci := 13) (kf := 18) rfl inGX13 (by decide) w_1591))))) (ok_t_n (ok_t_n (ok_t_l (ok_getfieldN dX13_manyNow_162 (ci := 12) (kf := 4) rfl inGX12 (by decide) (nst_48))) (ok_t_n (ok_t_l (ok_goto dX13_manyNow_165 rfl)) (ok_t_l (ok_iload_n dX13_manyNow_168 rfl)))) (ok_t_n (ok_t_n (ok_t_l (ok_bipush dX13_manyNow_169 rfl)) (ok_t_l (ok_icmp_ne dX13_manyNow_171 rfl))) (ok_t_n (ok_t_l (ok_aload_n dX13_manyNow_174 rfl)) (ok_t_l (ok_getfield dX13_manyNow_175 (ci := 13) (kf := 18) rfl inGX13 (by decide) w_1591))))))) (ok_t_n (ok_t_n (ok_t_n (ok_t_n (ok_t_l (ok_inv (run_VN (y := 226) (n := 0) (ci := 12) dX13_manyNow_178 cz_226 gdG cc_226 ci_226 nst_63 cm_226 cs_226 cd_226 cl_226 rfl rfl))) (ok_t_n (ok_t_l (ok_goto dX13_manyNow_181 rfl)) (ok_t_l (ok_iload_n dX13_manyNow_184 rfl)))) (ok_t_n (ok_t_n (ok_t_l (ok_bipush dX13_manyNow_185 rfl)) (ok_t_l (ok_icmp_ne dX13_manyNow_187 rfl))) (ok_t_n (ok_t_l (ok_aload_n dX13_manyNow_190 rfl)) (ok_t_l (ok_getfield dX13_manyNow_191 (ci := 13) (kf := 18) rfl inGX13 (by decide) w_1591))))) (ok_t_n (ok_t_n (ok_t_l (ok_getfieldN dX13_manyNow_194 (ci := 12) (kf := 19) rfl inGX12 (by decide) (nst_56))) (ok_t_n (ok_t_l (ok_goto dX13_manyNow_197 rfl)) (ok_t_l (ok_iload_n dX13_manyNow_200 rfl)))) (ok_t_n (ok_t_n (ok_t_l (ok_bipush dX13_manyNow_201 rfl)) (ok_t_l (ok_icmp_ne dX13_manyNow_203 rfl))) (ok_t_n (ok_t_l (ok_aload_n dX13_manyNow_206 rfl)) (ok_t_l (ok_getfield dX13_manyNow_207 (ci := 13) (kf := 18) rfl inGX13 (by decide) w_1591)))))) (ok_t_n (ok_t_n (ok_t_n (ok_t_l (ok_getfieldN dX13_manyNow_210 (ci := 12) (kf := 21) rfl inGX12 (by decide) (nst_58))) (ok_t_n (ok_t_l (ok_goto dX13_manyNow_213 rfl)) (ok_t_l (ok_iload_n dX13_manyNow_216 rfl)))) (ok_t_n (ok_t_n (ok_t_l (ok_bipush dX13_manyNow_217 rfl)) (ok_t_l (ok_icmp_ne dX13_manyNow_219 rfl))) (ok_t_n (ok_t_l (ok_aload_n dX13_manyNow_222 rfl)) (ok_t_l (ok_getfield dX13_manyNow_223 (ci := 13) (kf := 18) rfl inGX13 (by decide) w_1591))))) (ok_t_n (ok_t_n (ok_t_l (ok_inv (run_VN (y := 224) (n := 0) (ci := 12) dX13_manyNow_226 cz_224 gdG cc_224 ci_224 nst_64 cm_224 cs_224 cd_224 cl_224 rfl rfl))) (ok_t_n (ok_t_l (ok_goto dX13_manyNow_229 rfl)) (ok_t_l (ok_aload_n dX13_manyNow_232 rfl)))) (ok_t_n (ok_t_n (ok_t_l (ok_getfield dX13_manyNow_233 (ci := 13) (kf := 18) rfl inGX13 (by decide) w_1591)) (ok_t_l (ok_getfieldN dX13_manyNow_236 (ci := 12) (kf := 18) rfl inGX12 (by decide) (nst_55)))) (ok_t_n (ok_t_l (ok_inv (run_S (y := 278) (n := 1) dX13_manyNow_239 cz_278 gdG cc_278 ci_278 w_2053 cm_278 cd_278 cl_278))) (ok_t_l (ok_ireturn dX13_manyNow_242)))))))))
theorem dX13_many_0 : decode cX13_many 0 = .ok (.aload_n 0, 1) := by decide +kernel
theorem dX13_many_1 : decode cX13_many 1 = .ok (.iconst 0, 1) := by decide +kernel
theorem dX13_many_2 : decode cX13_many 2 = .ok (.putfield 81, 3) := by decide +kernel
theorem dX13_many_5 : decode cX13_many 5 = .ok (.iload_n 1, 1) := by decide +kernel
theorem dX13_many_6 : decode cX13_many 6 = .ok (.iconst 0, 1) := by decide +kernel
theorem dX13_many_7 : decode cX13_many 7 = .ok (.bipush 12, 2) := by decide +kernel
theorem dX13_many_9 : decode cX13_many 9 = .ok (.invokestatic 87, 3) := by decide +kernel
theorem dX13_many_12 : decode cX13_many 12 = .ok (.ifCond .eq 11, 3) := by decide +kernel
theorem dX13_many_15 : decode cX13_many 15 = .ok (.aload_n 0, 1) := by decide +kernel
theorem dX13_many_16 : decode cX13_many 16 = .ok (.iload_n 1, 1) := by decide +kernel
theorem dX13_many_17 : decode cX13_many 17 = .ok (.invokevirtual 267, 3) := by decide +kernel
theorem dX13_many_20 : decode cX13_many 20 = .ok (.goto 8, 3) := by decide +kernel
theorem dX13_many_23 : decode cX13_many 23 = .ok (.aload_n 0, 1) := by decide +kernel
theorem dX13_many_24 : decode cX13_many 24 = .ok (.iconst 1, 1) := by decide +kernel
theorem dX13_many_25 : decode cX13_many 25 = .ok (.invokevirtual 94, 3) := by decide +kernel
theorem dX13_many_28 : decode cX13_many 28 = .ok (.ireturn, 1) := by decide +kernel
def g_X13_many : Nat → EA := (t_n 15 (t_n 6 (t_n 2 (t_n 1 (t_l 0 (a_aload 1 0)) (t_l 1 (a_push 1 (.int 0)))) (t_n 5 (t_l 2 (a_putf 0 13 0)) (t_l 5 (a_iload 1 1)))) (t_n 9 (t_n 7 (t_l 6 (a_push 1 (.int 0))) (t_l 7 (a_push 2 (.int 12)))) (t_n 12 (t_l 9 (a_inv true 230 3 none)) (t_l 12 (a_if 23 (fun x => decide (x = 0))))))) (t_n 23 (t_n 17 (t_n 16 (t_l 15 (a_aload 1 0)) (t_l 16 (a_iload 1 1))) (t_n 20 (t_l 17 (a_inv true 281 2 (some 13))) (t_l 20 (a_goto 28)))) (t_n 25 (t_n 24 (t_l 23 (a_aload 1 0)) (t_l 24 (a_push 1 (.int 1)))) (t_n 28 (t_l 25 (a_inv true 229 2 (some 13))) (t_l 28 a_iret)))))
set_option maxRecDepth 100000 in
theorem k_X13_many (d : Nat) : ∀ pc, ev_Ok cX13_many 2 [] RX13 lw_g lw_n lw_q vwCl false (ev_CO mt lw_g lw_n lw_q vwCl d) pc (g_X13_many pc) := (ok_t_n (ok_t_n (ok_t_n (ok_t_n (ok_t_l (ok_aload_n dX13_many_0 rfl)) (ok_t_l (ok_iconst dX13_many_1 rfl))) (ok_t_n (ok_t_l (ok_putfield dX13_many_2 (ci := 13) (kf := 0) rfl inGX13 (by decide) tyX13_ok nmX13 rfl w_1559 rfl)) (ok_t_l (ok_iload_n dX13_many_5 rfl)))) (ok_t_n (ok_t_n (ok_t_l (ok_iconst dX13_many_6 rfl)) (ok_t_l (ok_bipush dX13_many_7 rfl))) (ok_t_n (ok_t_l (ok_inv (run_S (y := 230) (n := 3) dX13_many_9 cz_230 gdG cc_230 ci_230 w_1684 cm_230 cd_230 cl_230))) (ok_t_l (ok_if_eq dX13_many_12 rfl))))) (ok_t_n (ok_t_n (ok_t_n (ok_t_l (ok_aload_n dX13_many_15 rfl)) (ok_t_l (ok_iload_n dX13_many_16 rfl))) (ok_t_n (ok_t_l (ok_inv (run_V (y := 281) (n := 1) (ci := 13) dX13_many_17 cz_281 gdG cc_281 ci_281 w_2060 cm_281 cs_281 cd_281 cl_281 rfl rfl))) (ok_t_l (ok_goto dX13_many_20 rfl)))) (ok_t_n (ok_t_n (ok_t_l (ok_aload_n dX13_many_23 rfl)) (ok_t_l (ok_iconst dX13_many_24 rfl))) (ok_t_n (ok_t_l (ok_inv (run_V (y := 229) (n := 1) (ci := 13) dX13_many_25 cz_229 gdG cc_229 ci_229 w_1672 cm_229 cs_229 cd_229 cl_229 rfl rfl))) (ok_t_l (ok_ireturn dX13_many_28))))))
theorem dX13_usedPart_0 : decode cX13_usedPart 0 = .ok (.aload_n 0, 1) := by decide +kernel
theorem dX13_usedPart_1 : decode cX13_usedPart 1 = .ok (.iconst 0, 1) := by decide +kernel
theorem dX13_usedPart_2 : decode cX13_usedPart 2 = .ok (.putfield 81, 3) := by decide +kernel
theorem dX13_usedPart_5 : decode cX13_usedPart 5 = .ok (.aload_n 0, 1) := by decide +kernel
theorem dX13_usedPart_6 : decode cX13_usedPart 6 = .ok (.getfield 135, 3) := by decide +kernel
theorem dX13_usedPart_9 : decode cX13_usedPart 9 = .ok (.ifCond .eq 23, 3) := by decide +kernel
theorem dX13_usedPart_12 : decode cX13_usedPart 12 = .ok (.aload_n 0, 1) := by decide +kernel
theorem dX13_usedPart_13 : decode cX13_usedPart 13 = .ok (.getfield 139, 3) := by decide +kernel
theorem dX13_usedPart_16 : decode cX13_usedPart 16 = .ok (.getfield 270, 3) := by decide +kernel
theorem dX13_usedPart_19 : decode cX13_usedPart 19 = .ok (.i2d, 1) := by decide +kernel
theorem dX13_usedPart_20 : decode cX13_usedPart 20 = .ok (.aload_n 0, 1) := by decide +kernel
theorem dX13_usedPart_21 : decode cX13_usedPart 21 = .ok (.getfield 139, 3) := by decide +kernel
theorem dX13_usedPart_24 : decode cX13_usedPart 24 = .ok (.getfield 182, 3) := by decide +kernel
theorem dX13_usedPart_27 : decode cX13_usedPart 27 = .ok (.i2d, 1) := by decide +kernel
theorem dX13_usedPart_28 : decode cX13_usedPart 28 = .ok (.ddiv, 1) := by decide +kernel
theorem dX13_usedPart_29 : decode cX13_usedPart 29 = .ok (.goto 4, 3) := by decide +kernel
theorem dX13_usedPart_32 : decode cX13_usedPart 32 = .ok (.dconst 0, 1) := by decide +kernel
theorem dX13_usedPart_33 : decode cX13_usedPart 33 = .ok (.dreturn, 1) := by decide +kernel
def g_X13_usedPart : Nat → EA := (t_n 16 (t_n 6 (t_n 2 (t_n 1 (t_l 0 (a_aload 1 0)) (t_l 1 (a_push 1 (.int 0)))) (t_n 5 (t_l 2 (a_putf 0 13 0)) (t_l 5 (a_aload 1 0)))) (t_n 12 (t_n 9 (t_l 6 (a_getf 13 17)) (t_l 9 (a_if 32 (fun x => decide (x = 0))))) (t_n 13 (t_l 12 (a_aload 1 0)) (t_l 13 (a_getf 13 18))))) (t_n 24 (t_n 20 (t_n 19 (t_l 16 (a_getf 12 20)) (t_l 19 (a_i (fun x => .double (FP.i2d x))))) (t_n 21 (t_l 20 (a_aload 1 0)) (t_l 21 (a_getf 13 18)))) (t_n 29 (t_n 27 (t_l 24 (a_getf 12 19)) (t_l 27 (a_i (fun x => .double (FP.i2d x))))) (t_n 32 (t_l 29 (a_goto 33)) (t_n 33 (t_l 32 (a_push 1 (.double FP.dconst0))) (t_l 33 a_dret))))))
set_option maxRecDepth 100000 in
theorem k_X13_usedPart (d : Nat) : ∀ pc, ev_Ok cX13_usedPart 1 [] RX13 lw_g lw_n lw_q vwCl false (ev_CO mt lw_g lw_n lw_q vwCl d) pc (g_X13_usedPart pc) := (ok_t_n (ok_t_n (ok_t_n (ok_t_n (ok_t_l (ok_aload_n dX13_usedPart_0 rfl)) (ok_t_l (ok_iconst dX13_usedPart_1 rfl))) (ok_t_n (ok_t_l (ok_putfield dX13_usedPart_2 (ci := 13) (kf := 0) rfl inGX13 (by decide) tyX13_ok nmX13 rfl w_1559 rfl)) (ok_t_l (ok_aload_n dX13_usedPart_5 rfl)))) (ok_t_n (ok_t_n (ok_t_l (ok_getfield dX13_usedPart_6 (ci := 13) (kf := 17) rfl inGX13 (by decide) w_1590)) (ok_t_l (ok_if_eq dX13_usedPart_9 rfl))) (ok_t_n (ok_t_l (ok_aload_n dX13_usedPart_12 rfl)) (ok_t_l (ok_getfield dX13_usedPart_13 (ci := 13) (kf := 18) rfl inGX13 (by decide) w_1591))))) (ok_t_n (ok_t_n (ok_t_n (ok_t_l (ok_getfieldN dX13_usedPart_16 (ci := 12) (kf := 20) rfl inGX12 (by decide) (nst_57))) (ok_t_l (ok_i2d dX13_usedPart_19))) (ok_t_n (ok_t_l (ok_aload_n dX13_usedPart_20 rfl)) (ok_t_l (ok_getfield dX13_usedPart_21 (ci := 13) (kf := 18) rfl inGX13 (by decide) w_1591)))) (ok_t_n (ok_t_n (ok_t_l (ok_getfieldN dX13_usedPart_24 (ci := 12) (kf := 19) rfl inGX12 (by decide) (nst_56))) (ok_t_l (ok_i2d dX13_usedPart_27))) (ok_t_n (ok_t_l (ok_goto dX13_usedPart_29 rfl)) (ok_t_n (ok_t_l (ok_dconst0 dX13_usedPart_32)) (ok_t_l (ok_dreturn dX13_usedPart_33)))))))
theorem dX13_sizeWith_0 : decode cX13_sizeWith 0 = .ok (.aload_n 0, 1) := by decide +kernel
theorem dX13_sizeWith_1 : decode cX13_sizeWith 1 = .ok (.iconst 0, 1) := by decide +kernel
theorem dX13_sizeWith_2 : decode cX13_sizeWith 2 = .ok (.putfield 81, 3) := by decide +kernel
theorem dX13_sizeWith_5 : decode cX13_sizeWith 5 = .ok (.iload_n 1, 1) := by decide +kernel
theorem dX13_sizeWith_6 : decode cX13_sizeWith 6 = .ok (.iconst 1, 1) := by decide +kernel
theorem dX13_sizeWith_7 : decode cX13_sizeWith 7 = .ok (.sipush 500, 3) := by decide +kernel
theorem dX13_sizeWith_10 : decode cX13_sizeWith 10 = .ok (.invokestatic 87, 3) := by decide +kernel
theorem dX13_sizeWith_13 : decode cX13_sizeWith 13 = .ok (.ifCond .ne 9, 3) := by decide +kernel
theorem dX13_sizeWith_16 : decode cX13_sizeWith 16 = .ok (.aload_n 0, 1) := by decide +kernel
theorem dX13_sizeWith_17 : decode cX13_sizeWith 17 = .ok (.iconst 1, 1) := by decide +kernel
theorem dX13_sizeWith_18 : decode cX13_sizeWith 18 = .ok (.invokevirtual 94, 3) := by decide +kernel
theorem dX13_sizeWith_21 : decode cX13_sizeWith 21 = .ok (.ireturn, 1) := by decide +kernel
theorem dX13_sizeWith_22 : decode cX13_sizeWith 22 = .ok (.aload_n 0, 1) := by decide +kernel
theorem dX13_sizeWith_23 : decode cX13_sizeWith 23 = .ok (.getfield 135, 3) := by decide +kernel
theorem dX13_sizeWith_26 : decode cX13_sizeWith 26 = .ok (.ifCond .eq 37, 3) := by decide +kernel
theorem dX13_sizeWith_29 : decode cX13_sizeWith 29 = .ok (.new 144, 3) := by decide +kernel
theorem dX13_sizeWith_32 : decode cX13_sizeWith 32 = .ok (.dup, 1) := by decide +kernel
theorem dX13_sizeWith_33 : decode cX13_sizeWith 33 = .ok (.aload_n 0, 1) := by decide +kernel
theorem dX13_sizeWith_34 : decode cX13_sizeWith 34 = .ok (.aload_n 0, 1) := by decide +kernel
theorem dX13_sizeWith_35 : decode cX13_sizeWith 35 = .ok (.getfield 139, 3) := by decide +kernel
theorem dX13_sizeWith_38 : decode cX13_sizeWith 38 = .ok (.getfield 273, 3) := by decide +kernel
theorem dX13_sizeWith_41 : decode cX13_sizeWith 41 = .ok (.aload_n 0, 1) := by decide +kernel
theorem dX13_sizeWith_42 : decode cX13_sizeWith 42 = .ok (.getfield 139, 3) := by decide +kernel
theorem dX13_sizeWith_45 : decode cX13_sizeWith 45 = .ok (.getfield 191, 3) := by decide +kernel
theorem dX13_sizeWith_48 : decode cX13_sizeWith 48 = .ok (.iload_n 1, 1) := by decide +kernel
theorem dX13_sizeWith_49 : decode cX13_sizeWith 49 = .ok (.aload_n 0, 1) := by decide +kernel
theorem dX13_sizeWith_50 : decode cX13_sizeWith 50 = .ok (.getfield 48, 3) := by decide +kernel
theorem dX13_sizeWith_53 : decode cX13_sizeWith 53 = .ok (.iconst (-1), 1) := by decide +kernel
theorem dX13_sizeWith_54 : decode cX13_sizeWith 54 = .ok (.invokespecial 152, 3) := by decide +kernel
theorem dX13_sizeWith_57 : decode cX13_sizeWith 57 = .ok (.getfield 182, 3) := by decide +kernel
theorem dX13_sizeWith_60 : decode cX13_sizeWith 60 = .ok (.goto 8, 3) := by decide +kernel
theorem dX13_sizeWith_63 : decode cX13_sizeWith 63 = .ok (.aload_n 0, 1) := by decide +kernel
theorem dX13_sizeWith_64 : decode cX13_sizeWith 64 = .ok (.iconst 2, 1) := by decide +kernel
theorem dX13_sizeWith_65 : decode cX13_sizeWith 65 = .ok (.invokevirtual 94, 3) := by decide +kernel
theorem dX13_sizeWith_68 : decode cX13_sizeWith 68 = .ok (.ireturn, 1) := by decide +kernel
def g_X13_sizeWith : Nat → EA := (t_n 33 (t_n 16 (t_n 6 (t_n 2 (t_n 1 (t_l 0 (a_aload 1 0)) (t_l 1 (a_push 1 (.int 0)))) (t_n 5 (t_l 2 (a_putf 0 13 0)) (t_l 5 (a_iload 1 1)))) (t_n 10 (t_n 7 (t_l 6 (a_push 1 (.int 1))) (t_l 7 (a_push 3 (.int 500)))) (t_n 13 (t_l 10 (a_inv true 230 3 none)) (t_l 13 (a_if 22 (fun x => !decide (x = 0))))))) (t_n 22 (t_n 18 (t_n 17 (t_l 16 (a_aload 1 0)) (t_l 17 (a_push 1 (.int 1)))) (t_n 21 (t_l 18 (a_inv true 229 2 (some 13))) (t_l 21 a_iret))) (t_n 26 (t_n 23 (t_l 22 (a_aload 1 0)) (t_l 23 (a_getf 13 17))) (t_n 29 (t_l 26 (a_if 63 (fun x => decide (x = 0)))) (t_n 32 (t_l 29 (a_new 12 25 [.int 0, .int 0, .int 0, .int 0, .int 0, .null, .null, .null, .null, .null, .null, .null, .null, .null, .null, .null, .null, .null, .int 0, .int 0, .int 0, .int 0, .null, .null, .null])) (t_l 32 a_dup)))))) (t_n 50 (t_n 41 (t_n 35 (t_n 34 (t_l 33 (a_aload 1 0)) (t_l 34 (a_aload 1 0))) (t_n 38 (t_l 35 (a_getf 13 18)) (t_l 38 (a_getf 12 0)))) (t_n 45 (t_n 42 (t_l 41 (a_aload 1 0)) (t_l 42 (a_getf 13 18))) (t_n 48 (t_l 45 (a_getf 12 3)) (t_n 49 (t_l 48 (a_iload 1 1)) (t_l 49 (a_aload 1 0)))))) (t_n 60 (t_n 54 (t_n 53 (t_l 50 (a_getf 13 16)) (t_l 53 (a_push 1 (.int (-1))))) (t_n 57 (t_l 54 (a_inv false 203 7 (some 12))) (t_l 57 (a_getf 12 19)))) (t_n 64 (t_n 63 (t_l 60 (a_goto 68)) (t_l 63 (a_aload 1 0))) (t_n 65 (t_l 64 (a_push 1 (.int 2))) (t_n 68 (t_l 65 (a_inv true 229 2 (some 13))) (t_l 68 a_iret)))))))
set_option maxRecDepth 100000 in
theorem k_X13_sizeWith (d : Nat) : ∀ pc, ev_Ok cX13_sizeWith 2 [] RX13 lw_g lw_n lw_q vwCl false (ev_CO mt lw_g lw_n lw_q vwCl d) pc (g_X13_sizeWith pc) := (ok_t_n (ok_t_n (ok_t_n (ok_t_n (ok_t_n (ok_t_l (ok_aload_n dX13_sizeWith_0 rfl)) (ok_t_l (ok_iconst dX13_sizeWith_1 rfl))) (ok_t_n (ok_t_l (ok_putfield dX13_sizeWith_2 (ci := 13) (kf := 0) rfl inGX13 (by decide) tyX13_ok nmX13 rfl w_1559 rfl)) (ok_t_l (ok_iload_n dX13_sizeWith_5 rfl)))) (ok_t_n (ok_t_n (ok_t_l (ok_iconst dX13_sizeWith_6 rfl)) (ok_t_l (ok_sipush dX13_sizeWith_7 rfl))) (ok_t_n (ok_t_l (ok_inv (run_S (y := 230) (n := 3) dX13_sizeWith_10 cz_230 gdG cc_230 ci_230 w_1684 cm_230 cd_230 cl_230))) (ok_t_l (ok_if_ne dX13_sizeWith_13 rfl))))) (ok_t_n (ok_t_n (ok_t_n (ok_t_l (ok_aload_n dX13_sizeWith_16 rfl)) (ok_t_l (ok_iconst dX13_sizeWith_17 rfl))) (ok_t_n (ok_t_l (ok_inv (run_V (y := 229) (n := 1) (ci := 13) dX13_sizeWith_18 cz_229 gdG cc_229 ci_229 w_1672 cm_229 cs_229 cd_229 cl_229 rfl rfl))) (ok_t_l (ok_ireturn dX13_sizeWith_21)))) (ok_t_n (ok_t_n (ok_t_l (ok_aload_n dX13_sizeWith_22 rfl)) (ok_t_l (ok_getfield dX13_sizeWith_23 (ci := 13) (kf := 17) rfl inGX13 (by decide) w_1590))) (ok_t_n (ok_t_l (ok_if_eq dX13_sizeWith_26 rfl)) (ok_t_n (ok_t_l (ok_new dX13_sizeWith_29 (ci := 12) rfl inGX12 tyX12 tyX12_ok w_1764 w_1765 w_105 (by decide +kernel) rfl)) (ok_t_l (ok_dup dX13_sizeWith_32))))))) (ok_t_n (ok_t_n (ok_t_n (ok_t_n (ok_t_l (ok_aload_n dX13_sizeWith_33 rfl)) (ok_t_l (ok_aload_n dX13_sizeWith_34 rfl))) (ok_t_n (ok_t_l (ok_getfield dX13_sizeWith_35 (ci := 13) (kf := 18) rfl inGX13 (by decide) w_1591)) (ok_t_l (ok_getfieldN dX13_sizeWith_38 (ci := 12) (kf := 0) rfl inGX12 (by decide) (nst_46))))) (ok_t_n (ok_t_n (ok_t_l (ok_aload_n dX13_sizeWith_41 rfl)) (ok_t_l (ok_getfield dX13_sizeWith_42 (ci := 13) (kf := 18) rfl inGX13 (by decide) w_1591))) (ok_t_n (ok_t_l (ok_getfieldN dX13_sizeWith_45 (ci := 12) (kf := 3) rfl inGX12 (by decide) (nst_47))) (ok_t_n (ok_t_l (ok_iload_n dX13_sizeWith_48 rfl)) (ok_t_l (ok_aload_n dX13_sizeWith_49 rfl)))))) (ok_t_n (ok_t_n (ok_t_n (ok_t_l (ok_getfield dX13_sizeWith_50 (ci := 13) (kf := 16) rfl inGX13 (by decide) w_1589)) (ok_t_l (ok_iconst dX13_sizeWith_53 rfl))) (ok_t_n (ok_t_l (ok_inv (run_I (y := 203) (n := 6) (ci := 12) dX13_sizeWith_54 cz_203 gdG cc_203 ci_203 w_1766 cm_203 rfl rfl cd_203 cl_203))) (ok_t_l (ok_getfieldN dX13_sizeWith_57 (ci := 12) (kf := 19) rfl inGX12 (by decide) (nst_56))))) (ok_t_n (ok_t_n (ok_t_l (ok_goto dX13_sizeWith_60 rfl)) (ok_t_l (ok_aload_n dX13_sizeWith_63 rfl))) (ok_t_n (ok_t_l (ok_iconst dX13_sizeWith_64 rfl)) (ok_t_n (ok_t_l (ok_inv (run_V (y := 229) (n := 1) (ci := 13) dX13_sizeWith_65 cz_229 gdG cc_229 ci_229 w_1672 cm_229 cs_229 cd_229 cl_229 rfl rfl))) (ok_t_l (ok_ireturn dX13_sizeWith_68))))))))
theorem dX13_faultsWithout_0 : decode cX13_faultsWithout 0 = .ok (.aload_n 0, 1) := by decide +kernel
theorem dX13_faultsWithout_1 : decode cX13_faultsWithout 1 = .ok (.iconst 0, 1) := by decide +kernel
theorem dX13_faultsWithout_2 : decode cX13_faultsWithout 2 = .ok (.putfield 81, 3) := by decide +kernel
theorem dX13_faultsWithout_5 : decode cX13_faultsWithout 5 = .ok (.aload_n 0, 1) := by decide +kernel
theorem dX13_faultsWithout_6 : decode cX13_faultsWithout 6 = .ok (.iload_n 1, 1) := by decide +kernel
theorem dX13_faultsWithout_7 : decode cX13_faultsWithout 7 = .ok (.invokevirtual 98, 3) := by decide +kernel
theorem dX13_faultsWithout_10 : decode cX13_faultsWithout 10 = .ok (.ifCond .ne 9, 3) := by decide +kernel
theorem dX13_faultsWithout_13 : decode cX13_faultsWithout 13 = .ok (.aload_n 0, 1) := by decide +kernel
theorem dX13_faultsWithout_14 : decode cX13_faultsWithout 14 = .ok (.iconst 1, 1) := by decide +kernel
theorem dX13_faultsWithout_15 : decode cX13_faultsWithout 15 = .ok (.invokevirtual 94, 3) := by decide +kernel
theorem dX13_faultsWithout_18 : decode cX13_faultsWithout 18 = .ok (.ireturn, 1) := by decide +kernel
theorem dX13_faultsWithout_19 : decode cX13_faultsWithout 19 = .ok (.aload_n 0, 1) := by decide +kernel
theorem dX13_faultsWithout_20 : decode cX13_faultsWithout 20 = .ok (.getfield 135, 3) := by decide +kernel
theorem dX13_faultsWithout_23 : decode cX13_faultsWithout 23 = .ok (.ifCond .eq 40, 3) := by decide +kernel
theorem dX13_faultsWithout_26 : decode cX13_faultsWithout 26 = .ok (.new 144, 3) := by decide +kernel
theorem dX13_faultsWithout_29 : decode cX13_faultsWithout 29 = .ok (.dup, 1) := by decide +kernel
theorem dX13_faultsWithout_30 : decode cX13_faultsWithout 30 = .ok (.aload_n 0, 1) := by decide +kernel
theorem dX13_faultsWithout_31 : decode cX13_faultsWithout 31 = .ok (.aload_n 0, 1) := by decide +kernel
theorem dX13_faultsWithout_32 : decode cX13_faultsWithout 32 = .ok (.getfield 139, 3) := by decide +kernel
theorem dX13_faultsWithout_35 : decode cX13_faultsWithout 35 = .ok (.getfield 273, 3) := by decide +kernel
theorem dX13_faultsWithout_38 : decode cX13_faultsWithout 38 = .ok (.aload_n 0, 1) := by decide +kernel
theorem dX13_faultsWithout_39 : decode cX13_faultsWithout 39 = .ok (.getfield 139, 3) := by decide +kernel
theorem dX13_faultsWithout_42 : decode cX13_faultsWithout 42 = .ok (.getfield 191, 3) := by decide +kernel
theorem dX13_faultsWithout_45 : decode cX13_faultsWithout 45 = .ok (.aload_n 0, 1) := by decide +kernel
theorem dX13_faultsWithout_46 : decode cX13_faultsWithout 46 = .ok (.getfield 44, 3) := by decide +kernel
theorem dX13_faultsWithout_49 : decode cX13_faultsWithout 49 = .ok (.aload_n 0, 1) := by decide +kernel
theorem dX13_faultsWithout_50 : decode cX13_faultsWithout 50 = .ok (.getfield 48, 3) := by decide +kernel
theorem dX13_faultsWithout_53 : decode cX13_faultsWithout 53 = .ok (.iload_n 1, 1) := by decide +kernel
theorem dX13_faultsWithout_54 : decode cX13_faultsWithout 54 = .ok (.invokespecial 152, 3) := by decide +kernel
theorem dX13_faultsWithout_57 : decode cX13_faultsWithout 57 = .ok (.getfield 158, 3) := by decide +kernel
theorem dX13_faultsWithout_60 : decode cX13_faultsWithout 60 = .ok (.goto 8, 3) := by decide +kernel
theorem dX13_faultsWithout_63 : decode cX13_faultsWithout 63 = .ok (.aload_n 0, 1) := by decide +kernel
theorem dX13_faultsWithout_64 : decode cX13_faultsWithout 64 = .ok (.iconst 2, 1) := by decide +kernel
theorem dX13_faultsWithout_65 : decode cX13_faultsWithout 65 = .ok (.invokevirtual 94, 3) := by decide +kernel
theorem dX13_faultsWithout_68 : decode cX13_faultsWithout 68 = .ok (.ireturn, 1) := by decide +kernel
def g_X13_faultsWithout : Nat → EA := (t_n 31 (t_n 14 (t_n 6 (t_n 2 (t_n 1 (t_l 0 (a_aload 1 0)) (t_l 1 (a_push 1 (.int 0)))) (t_n 5 (t_l 2 (a_putf 0 13 0)) (t_l 5 (a_aload 1 0)))) (t_n 10 (t_n 7 (t_l 6 (a_iload 1 1)) (t_l 7 (a_inv true 233 2 (some 13)))) (t_n 13 (t_l 10 (a_if 19 (fun x => !decide (x = 0)))) (t_l 13 (a_aload 1 0))))) (t_n 20 (t_n 18 (t_n 15 (t_l 14 (a_push 1 (.int 1))) (t_l 15 (a_inv true 229 2 (some 13)))) (t_n 19 (t_l 18 a_iret) (t_l 19 (a_aload 1 0)))) (t_n 26 (t_n 23 (t_l 20 (a_getf 13 17)) (t_l 23 (a_if 63 (fun x => decide (x = 0))))) (t_n 29 (t_l 26 (a_new 12 25 [.int 0, .int 0, .int 0, .int 0, .int 0, .null, .null, .null, .null, .null, .null, .null, .null, .null, .null, .null, .null, .null, .int 0, .int 0, .int 0, .int 0, .null, .null, .null])) (t_n 30 (t_l 29 a_dup) (t_l 30 (a_aload 1 0))))))) (t_n 50 (t_n 39 (t_n 35 (t_n 32 (t_l 31 (a_aload 1 0)) (t_l 32 (a_getf 13 18))) (t_n 38 (t_l 35 (a_getf 12 0)) (t_l 38 (a_aload 1 0)))) (t_n 45 (t_n 42 (t_l 39 (a_getf 13 18)) (t_l 42 (a_getf 12 3))) (t_n 46 (t_l 45 (a_aload 1 0)) (t_n 49 (t_l 46 (a_getf 13 15)) (t_l 49 (a_aload 1 0)))))) (t_n 60 (t_n 54 (t_n 53 (t_l 50 (a_getf 13 16)) (t_l 53 (a_iload 1 1))) (t_n 57 (t_l 54 (a_inv false 203 7 (some 12))) (t_l 57 (a_getf 12 21)))) (t_n 64 (t_n 63 (t_l 60 (a_goto 68)) (t_l 63 (a_aload 1 0))) (t_n 65 (t_l 64 (a_push 1 (.int 2))) (t_n 68 (t_l 65 (a_inv true 229 2 (some 13))) (t_l 68 a_iret)))))))
set_option maxRecDepth 100000 in
theorem k_X13_faultsWithout (d : Nat) : ∀ pc, ev_Ok cX13_faultsWithout 2 [] RX13 lw_g lw_n lw_q vwCl false (ev_CO mt lw_g lw_n lw_q vwCl d) pc (g_X13_faultsWithout pc) := (ok_t_n (ok_t_n (ok_t_n (ok_t_n (ok_t_n (ok_t_l (ok_aload_n dX13_faultsWithout_0 rfl)) (ok_t_l (ok_iconst dX13_faultsWithout_1 rfl))) (ok_t_n (ok_t_l (ok_putfield dX13_faultsWithout_2 (ci := 13) (kf := 0) rfl inGX13 (by decide) tyX13_ok nmX13 rfl w_1559 rfl)) (ok_t_l (ok_aload_n dX13_faultsWithout_5 rfl)))) (ok_t_n (ok_t_n (ok_t_l (ok_iload_n dX13_faultsWithout_6 rfl)) (ok_t_l (ok_inv (run_V (y := 233) (n := 1) (ci := 13) dX13_faultsWithout_7 cz_233 gdG cc_233 ci_233 w_1680 cm_233 cs_233 cd_233 cl_233 rfl rfl)))) (ok_t_n (ok_t_l (ok_if_ne dX13_faultsWithout_10 rfl)) (ok_t_l (ok_aload_n dX13_faultsWithout_13 rfl))))) (ok_t_n (ok_t_n (ok_t_n (ok_t_l (ok_iconst dX13_faultsWithout_14 rfl)) (ok_t_l (ok_inv (run_V (y := 229) (n := 1) (ci := 13) dX13_faultsWithout_15 cz_229 gdG cc_229 ci_229 w_1672 cm_229 cs_229 cd_229 cl_229 rfl rfl)))) (ok_t_n (ok_t_l (ok_ireturn dX13_faultsWithout_18)) (ok_t_l (ok_aload_n dX13_faultsWithout_19 rfl)))) (ok_t_n (ok_t_n (ok_t_l (ok_getfield dX13_faultsWithout_20 (ci := 13) (kf := 17) rfl inGX13 (by decide) w_1590)) (ok_t_l (ok_if_eq dX13_faultsWithout_23 rfl))) (ok_t_n (ok_t_l (ok_new dX13_faultsWithout_26 (ci := 12) rfl inGX12 tyX12 tyX12_ok w_1764 w_1765 w_105 (by decide +kernel) rfl)) (ok_t_n (ok_t_l (ok_dup dX13_faultsWithout_29)) (ok_t_l (ok_aload_n dX13_faultsWithout_30 rfl))))))) (ok_t_n (ok_t_n (ok_t_n (ok_t_n (ok_t_l (ok_aload_n dX13_faultsWithout_31 rfl)) (ok_t_l (ok_getfield dX13_faultsWithout_32 (ci := 13) (kf := 18) rfl inGX13 (by decide) w_1591))) (ok_t_n (ok_t_l (ok_getfieldN dX13_faultsWithout_35 (ci := 12) (kf := 0) rfl inGX12 (by decide) (nst_46))) (ok_t_l (ok_aload_n dX13_faultsWithout_38 rfl)))) (ok_t_n (ok_t_n (ok_t_l (ok_getfield dX13_faultsWithout_39 (ci := 13) (kf := 18) rfl inGX13 (by decide) w_1591)) (ok_t_l (ok_getfieldN dX13_faultsWithout_42 (ci := 12) (kf := 3) rfl inGX12 (by decide) (nst_47)))) (ok_t_n (ok_t_l (ok_aload_n dX13_faultsWithout_45 rfl)) (ok_t_n (ok_t_l (ok_getfield dX13_faultsWithout_46 (ci := 13) (kf := 15) rfl inGX13 (by decide) w_1588)) (ok_t_l (ok_aload_n dX13_faultsWithout_49 rfl)))))) (ok_t_n (ok_t_n (ok_t_n (ok_t_l (ok_getfield dX13_faultsWithout_50 (ci := 13) (kf := 16) rfl inGX13 (by decide) w_1589)) (ok_t_l (ok_iload_n dX13_faultsWithout_53 rfl))) (ok_t_n (ok_t_l (ok_inv (run_I (y := 203) (n := 6) (ci := 12) dX13_faultsWithout_54 cz_203 gdG cc_203 ci_203 w_1766 cm_203 rfl rfl cd_203 cl_203))) (ok_t_l (ok_getfieldN dX13_faultsWithout_57 (ci := 12) (kf := 21) rfl inGX12 (by decide) (nst_58))))) (ok_t_n (ok_t_n (ok_t_l (ok_goto dX13_faultsWithout_60 rfl)) (ok_t_l (ok_aload_n dX13_faultsWithout_63 rfl))) (ok_t_n (ok_t_l (ok_iconst dX13_faultsWithout_64 rfl)) (ok_t_n (ok_t_l (ok_inv (run_V (y := 229) (n := 1) (ci := 13) dX13_faultsWithout_65 cz_229 gdG cc_229 ci_229 w_1672 cm_229 cs_229 cd_229 cl_229 rfl rfl))) (ok_t_l (ok_ireturn dX13_faultsWithout_68))))))))
theorem dX13_goes_0 : decode cX13_goes 0 = .ok (.aload_n 0, 1) := by decide +kernel
theorem dX13_goes_1 : decode cX13_goes 1 = .ok (.iconst 0, 1) := by decide +kernel
theorem dX13_goes_2 : decode cX13_goes 2 = .ok (.putfield 81, 3) := by decide +kernel
theorem dX13_goes_5 : decode cX13_goes 5 = .ok (.aload_n 0, 1) := by decide +kernel
theorem dX13_goes_6 : decode cX13_goes 6 = .ok (.iload_n 1, 1) := by decide +kernel
theorem dX13_goes_7 : decode cX13_goes 7 = .ok (.invokevirtual 223, 3) := by decide +kernel
theorem dX13_goes_10 : decode cX13_goes 10 = .ok (.ifCond .eq 11, 3) := by decide +kernel
theorem dX13_goes_13 : decode cX13_goes 13 = .ok (.aload_n 0, 1) := by decide +kernel
theorem dX13_goes_14 : decode cX13_goes 14 = .ok (.iload_n 1, 1) := by decide +kernel
theorem dX13_goes_15 : decode cX13_goes 15 = .ok (.invokevirtual 234, 3) := by decide +kernel
theorem dX13_goes_18 : decode cX13_goes 18 = .ok (.goto 8, 3) := by decide +kernel
theorem dX13_goes_21 : decode cX13_goes 21 = .ok (.aload_n 0, 1) := by decide +kernel
theorem dX13_goes_22 : decode cX13_goes 22 = .ok (.iconst 1, 1) := by decide +kernel
theorem dX13_goes_23 : decode cX13_goes 23 = .ok (.invokevirtual 94, 3) := by decide +kernel
theorem dX13_goes_26 : decode cX13_goes 26 = .ok (.ireturn, 1) := by decide +kernel
def g_X13_goes : Nat → EA := (t_n 13 (t_n 5 (t_n 1 (t_l 0 (a_aload 1 0)) (t_n 2 (t_l 1 (a_push 1 (.int 0))) (t_l 2 (a_putf 0 13 0)))) (t_n 7 (t_n 6 (t_l 5 (a_aload 1 0)) (t_l 6 (a_iload 1 1))) (t_n 10 (t_l 7 (a_inv true 260 2 (some 13))) (t_l 10 (a_if 21 (fun x => decide (x = 0))))))) (t_n 21 (t_n 15 (t_n 14 (t_l 13 (a_aload 1 0)) (t_l 14 (a_iload 1 1))) (t_n 18 (t_l 15 (a_inv true 270 2 (some 13))) (t_l 18 (a_goto 26)))) (t_n 23 (t_n 22 (t_l 21 (a_aload 1 0)) (t_l 22 (a_push 1 (.int 1)))) (t_n 26 (t_l 23 (a_inv true 229 2 (some 13))) (t_l 26 a_iret)))))
set_option maxRecDepth 100000 in
theorem k_X13_goes (d : Nat) : ∀ pc, ev_Ok cX13_goes 2 [] RX13 lw_g lw_n lw_q vwCl false (ev_CO mt lw_g lw_n lw_q vwCl d) pc (g_X13_goes pc) := (ok_t_n (ok_t_n (ok_t_n (ok_t_l (ok_aload_n dX13_goes_0 rfl)) (ok_t_n (ok_t_l (ok_iconst dX13_goes_1 rfl)) (ok_t_l (ok_putfield dX13_goes_2 (ci := 13) (kf := 0) rfl inGX13 (by decide) tyX13_ok nmX13 rfl w_1559 rfl)))) (ok_t_n (ok_t_n (ok_t_l (ok_aload_n dX13_goes_5 rfl)) (ok_t_l (ok_iload_n dX13_goes_6 rfl))) (ok_t_n (ok_t_l (ok_inv (run_V (y := 260) (n := 1) (ci := 13) dX13_goes_7 cz_260 gdG cc_260 ci_260 w_1983 cm_260 cs_260 cd_260 cl_260 rfl rfl))) (ok_t_l (ok_if_eq dX13_goes_10 rfl))))) (ok_t_n (ok_t_n (ok_t_n (ok_t_l (ok_aload_n dX13_goes_13 rfl)) (ok_t_l (ok_iload_n dX13_goes_14 rfl))) (ok_t_n (ok_t_l (ok_inv (run_V (y := 270) (n := 1) (ci := 13) dX13_goes_15 cz_270 gdG cc_270 ci_270 w_2014 cm_270 cs_270 cd_270 cl_270 rfl rfl))) (ok_t_l (ok_goto dX13_goes_18 rfl)))) (ok_t_n (ok_t_n (ok_t_l (ok_aload_n dX13_goes_21 rfl)) (ok_t_l (ok_iconst dX13_goes_22 rfl))) (ok_t_n (ok_t_l (ok_inv (run_V (y := 229) (n := 1) (ci := 13) dX13_goes_23 cz_229 gdG cc_229 ci_229 w_1672 cm_229 cs_229 cd_229 cl_229 rfl rfl))) (ok_t_l (ok_ireturn dX13_goes_26))))))
theorem dX13_wouldBindNow_0 : decode cX13_wouldBindNow 0 = .ok (.aload_n 0, 1) := by decide +kernel
theorem dX13_wouldBindNow_1 : decode cX13_wouldBindNow 1 = .ok (.iload_n 1, 1) := by decide +kernel
theorem dX13_wouldBindNow_2 : decode cX13_wouldBindNow 2 = .ok (.iload_n 2, 1) := by decide +kernel
theorem dX13_wouldBindNow_3 : decode cX13_wouldBindNow 3 = .ok (.invokevirtual 240, 3) := by decide +kernel
theorem dX13_wouldBindNow_6 : decode cX13_wouldBindNow 6 = .ok (.ifCond .eq 12, 3) := by decide +kernel
theorem dX13_wouldBindNow_9 : decode cX13_wouldBindNow 9 = .ok (.aload_n 0, 1) := by decide +kernel
theorem dX13_wouldBindNow_10 : decode cX13_wouldBindNow 10 = .ok (.iload_n 1, 1) := by decide +kernel
theorem dX13_wouldBindNow_11 : decode cX13_wouldBindNow 11 = .ok (.iload_n 2, 1) := by decide +kernel
theorem dX13_wouldBindNow_12 : decode cX13_wouldBindNow 12 = .ok (.invokevirtual 243, 3) := by decide +kernel
theorem dX13_wouldBindNow_15 : decode cX13_wouldBindNow 15 = .ok (.goto 4, 3) := by decide +kernel
theorem dX13_wouldBindNow_18 : decode cX13_wouldBindNow 18 = .ok (.iconst (-1), 1) := by decide +kernel
theorem dX13_wouldBindNow_19 : decode cX13_wouldBindNow 19 = .ok (.ireturn, 1) := by decide +kernel
def g_X13_wouldBindNow : Nat → EA := (t_n 10 (t_n 3 (t_n 1 (t_l 0 (a_aload 1 0)) (t_n 2 (t_l 1 (a_iload 1 1)) (t_l 2 (a_iload 1 2)))) (t_n 6 (t_l 3 (a_inv true 273 3 (some 13))) (t_n 9 (t_l 6 (a_if 18 (fun x => decide (x = 0)))) (t_l 9 (a_aload 1 0))))) (t_n 15 (t_n 11 (t_l 10 (a_iload 1 1)) (t_n 12 (t_l 11 (a_iload 1 2)) (t_l 12 (a_inv true 272 3 (some 13))))) (t_n 18 (t_l 15 (a_goto 19)) (t_n 19 (t_l 18 (a_push 1 (.int (-1)))) (t_l 19 a_iret)))))
set_option maxRecDepth 100000 in
theorem k_X13_wouldBindNow (d : Nat) : ∀ pc, ev_Ok cX13_wouldBindNow 3 [] RX13 lw_g lw_n lw_q vwCl false (ev_CO mt lw_g lw_n lw_q vwCl d) pc (g_X13_wouldBindNow pc) := (ok_t_n (ok_t_n (ok_t_n (ok_t_l (ok_aload_n dX13_wouldBindNow_0 rfl)) (ok_t_n (ok_t_l (ok_iload_n dX13_wouldBindNow_1 rfl)) (ok_t_l (ok_iload_n dX13_wouldBindNow_2 rfl)))) (ok_t_n (ok_t_l (ok_inv (run_V (y := 273) (n := 2) (ci := 13) dX13_wouldBindNow_3 cz_273 gdG cc_273 ci_273 w_2025 cm_273 cs_273 cd_273 cl_273 rfl rfl))) (ok_t_n (ok_t_l (ok_if_eq dX13_wouldBindNow_6 rfl)) (ok_t_l (ok_aload_n dX13_wouldBindNow_9 rfl))))) (ok_t_n (ok_t_n (ok_t_l (ok_iload_n dX13_wouldBindNow_10 rfl)) (ok_t_n (ok_t_l (ok_iload_n dX13_wouldBindNow_11 rfl)) (ok_t_l (ok_inv (run_V (y := 272) (n := 2) (ci := 13) dX13_wouldBindNow_12 cz_272 gdG cc_272 ci_272 w_2029 cm_272 cs_272 cd_272 cl_272 rfl rfl))))) (ok_t_n (ok_t_l (ok_goto dX13_wouldBindNow_15 rfl)) (ok_t_n (ok_t_l (ok_iconst dX13_wouldBindNow_18 rfl)) (ok_t_l (ok_ireturn dX13_wouldBindNow_19))))))
theorem dX13_wouldBind_0 : decode cX13_wouldBind 0 = .ok (.aload_n 0, 1) := by decide +kernel
theorem dX13_wouldBind_1 : decode cX13_wouldBind 1 = .ok (.iconst 0, 1) := by decide +kernel
theorem dX13_wouldBind_2 : decode cX13_wouldBind 2 = .ok (.putfield 81, 3) := by decide +kernel
theorem dX13_wouldBind_5 : decode cX13_wouldBind 5 = .ok (.aload_n 0, 1) := by decide +kernel
theorem dX13_wouldBind_6 : decode cX13_wouldBind 6 = .ok (.iload_n 1, 1) := by decide +kernel
theorem dX13_wouldBind_7 : decode cX13_wouldBind 7 = .ok (.invokevirtual 223, 3) := by decide +kernel
theorem dX13_wouldBind_10 : decode cX13_wouldBind 10 = .ok (.ifCond .ne 9, 3) := by decide +kernel
theorem dX13_wouldBind_13 : decode cX13_wouldBind 13 = .ok (.aload_n 0, 1) := by decide +kernel
theorem dX13_wouldBind_14 : decode cX13_wouldBind 14 = .ok (.iconst 1, 1) := by decide +kernel
theorem dX13_wouldBind_15 : decode cX13_wouldBind 15 = .ok (.invokevirtual 94, 3) := by decide +kernel
theorem dX13_wouldBind_18 : decode cX13_wouldBind 18 = .ok (.ireturn, 1) := by decide +kernel
theorem dX13_wouldBind_19 : decode cX13_wouldBind 19 = .ok (.iload_n 2, 1) := by decide +kernel
theorem dX13_wouldBind_20 : decode cX13_wouldBind 20 = .ok (.invokestatic 112, 3) := by decide +kernel
theorem dX13_wouldBind_23 : decode cX13_wouldBind 23 = .ok (.ifCond .eq 12, 3) := by decide +kernel
theorem dX13_wouldBind_26 : decode cX13_wouldBind 26 = .ok (.aload_n 0, 1) := by decide +kernel
theorem dX13_wouldBind_27 : decode cX13_wouldBind 27 = .ok (.iload_n 1, 1) := by decide +kernel
theorem dX13_wouldBind_28 : decode cX13_wouldBind 28 = .ok (.iload_n 2, 1) := by decide +kernel
theorem dX13_wouldBind_29 : decode cX13_wouldBind 29 = .ok (.invokevirtual 276, 3) := by decide +kernel
theorem dX13_wouldBind_32 : decode cX13_wouldBind 32 = .ok (.goto 8, 3) := by decide +kernel
theorem dX13_wouldBind_35 : decode cX13_wouldBind 35 = .ok (.aload_n 0, 1) := by decide +kernel
theorem dX13_wouldBind_36 : decode cX13_wouldBind 36 = .ok (.iconst 2, 1) := by decide +kernel
theorem dX13_wouldBind_37 : decode cX13_wouldBind 37 = .ok (.invokevirtual 94, 3) := by decide +kernel
theorem dX13_wouldBind_40 : decode cX13_wouldBind 40 = .ok (.ireturn, 1) := by decide +kernel
def g_X13_wouldBind : Nat → EA := (t_n 19 (t_n 7 (t_n 2 (t_n 1 (t_l 0 (a_aload 1 0)) (t_l 1 (a_push 1 (.int 0)))) (t_n 5 (t_l 2 (a_putf 0 13 0)) (t_n 6 (t_l 5 (a_aload 1 0)) (t_l 6 (a_iload 1 1))))) (t_n 14 (t_n 10 (t_l 7 (a_inv true 260 2 (some 13))) (t_n 13 (t_l 10 (a_if 19 (fun x => !decide (x = 0)))) (t_l 13 (a_aload 1 0)))) (t_n 15 (t_l 14 (a_push 1 (.int 1))) (t_n 18 (t_l 15 (a_inv true 229 2 (some 13))) (t_l 18 a_iret))))) (t_n 29 (t_n 26 (t_n 20 (t_l 19 (a_iload 1 2)) (t_n 23 (t_l 20 (a_inv true 235 1 none)) (t_l 23 (a_if 35 (fun x => decide (x = 0)))))) (t_n 27 (t_l 26 (a_aload 1 0)) (t_n 28 (t_l 27 (a_iload 1 1)) (t_l 28 (a_iload 1 2))))) (t_n 36 (t_n 32 (t_l 29 (a_inv true 287 3 (some 13))) (t_n 35 (t_l 32 (a_goto 40)) (t_l 35 (a_aload 1 0)))) (t_n 37 (t_l 36 (a_push 1 (.int 2))) (t_n 40 (t_l 37 (a_inv true 229 2 (some 13))) (t_l 40 a_iret))))))
set_option maxRecDepth 100000 in
theorem k_X13_wouldBind (d : Nat) : ∀ pc, ev_Ok cX13_wouldBind 3 [] RX13 lw_g lw_n lw_q vwCl false (ev_CO mt lw_g lw_n lw_q vwCl d) pc (g_X13_wouldBind pc) := (ok_t_n (ok_t_n (ok_t_n (ok_t_n (ok_t_l (ok_aload_n dX13_wouldBind_0 rfl)) (ok_t_l (ok_iconst dX13_wouldBind_1 rfl))) (ok_t_n (ok_t_l (ok_putfield dX13_wouldBind_2 (ci := 13) (kf := 0) rfl inGX13 (by decide) tyX13_ok nmX13 rfl w_1559 rfl)) (ok_t_n (ok_t_l (ok_aload_n dX13_wouldBind_5 rfl)) (ok_t_l (ok_iload_n dX13_wouldBind_6 rfl))))) (ok_t_n (ok_t_n (ok_t_l (ok_inv (run_V (y := 260) (n := 1) (ci := 13) dX13_wouldBind_7 cz_260 gdG cc_260 ci_260 w_1983 cm_260 cs_260 cd_260 cl_260 rfl rfl))) (ok_t_n (ok_t_l (ok_if_ne dX13_wouldBind_10 rfl)) (ok_t_l (ok_aload_n dX13_wouldBind_13 rfl)))) (ok_t_n (ok_t_l (ok_iconst dX13_wouldBind_14 rfl)) (ok_t_n (ok_t_l (ok_inv (run_V (y := 229) (n := 1) (ci := 13) dX13_wouldBind_15 cz_229 gdG cc_229 ci_229 w_1672 cm_229 cs_229 cd_229 cl_229 rfl rfl))) (ok_t_l (ok_ireturn dX13_wouldBind_18)))))) (ok_t_n (ok_t_n (ok_t_n (ok_t_l (ok_iload_n dX13_wouldBind_19 rfl)) (ok_t_n (ok_t_l (ok_inv (run_S (y := 235) (n := 1) dX13_wouldBind_20 cz_235 gdG cc_235 ci_235 w_1706 cm_235 cd_235 cl_235))) (ok_t_l (ok_if_eq dX13_wouldBind_23 rfl)))) (ok_t_n (ok_t_l (ok_aload_n dX13_wouldBind_26 rfl)) (ok_t_n (ok_t_l (ok_iload_n dX13_wouldBind_27 rfl)) (ok_t_l (ok_iload_n dX13_wouldBind_28 rfl))))) (ok_t_n (ok_t_n (ok_t_l (ok_inv (run_V (y := 287) (n := 2) (ci := 13) dX13_wouldBind_29 cz_287 gdG cc_287 ci_287 w_2092 cm_287 cs_287 cd_287 cl_287 rfl rfl))) (ok_t_n (ok_t_l (ok_goto dX13_wouldBind_32 rfl)) (ok_t_l (ok_aload_n dX13_wouldBind_35 rfl)))) (ok_t_n (ok_t_l (ok_iconst dX13_wouldBind_36 rfl)) (ok_t_n (ok_t_l (ok_inv (run_V (y := 229) (n := 1) (ci := 13) dX13_wouldBind_37 cz_229 gdG cc_229 ci_229 w_1672 cm_229 cs_229 cd_229 cl_229 rfl rfl))) (ok_t_l (ok_ireturn dX13_wouldBind_40)))))))
theorem dX13_digest_0 : decode cX13_digest 0 = .ok (.aload_n 0, 1) := by decide +kernel
theorem dX13_digest_1 : decode cX13_digest 1 = .ok (.iconst 0, 1) := by decide +kernel
theorem dX13_digest_2 : decode cX13_digest 2 = .ok (.putfield 81, 3) := by decide +kernel
theorem dX13_digest_5 : decode cX13_digest 5 = .ok (.ldc2_w 279, 3) := by decide +kernel
theorem dX13_digest_8 : decode cX13_digest 8 = .ok (.lstore_n 1, 1) := by decide +kernel
theorem dX13_digest_9 : decode cX13_digest 9 = .ok (.iconst 0, 1) := by decide +kernel
theorem dX13_digest_10 : decode cX13_digest 10 = .ok (.istore_n 3, 1) := by decide +kernel
theorem dX13_digest_11 : decode cX13_digest 11 = .ok (.iload_n 3, 1) := by decide +kernel
theorem dX13_digest_12 : decode cX13_digest 12 = .ok (.bipush 13, 2) := by decide +kernel
theorem dX13_digest_14 : decode cX13_digest 14 = .ok (.if_icmp .ge 22, 3) := by decide +kernel
theorem dX13_digest_17 : decode cX13_digest 17 = .ok (.lload_n 1, 1) := by decide +kernel
theorem dX13_digest_18 : decode cX13_digest 18 = .ok (.ldc2_w 281, 3) := by decide +kernel
theorem dX13_digest_21 : decode cX13_digest 21 = .ok (.lmul, 1) := by decide +kernel
theorem dX13_digest_22 : decode cX13_digest 22 = .ok (.aload_n 0, 1) := by decide +kernel
theorem dX13_digest_23 : decode cX13_digest 23 = .ok (.iload_n 3, 1) := by decide +kernel
theorem dX13_digest_24 : decode cX13_digest 24 = .ok (.invokevirtual 267, 3) := by decide +kernel
theorem dX13_digest_27 : decode cX13_digest 27 = .ok (.i2l, 1) := by decide +kernel
theorem dX13_digest_28 : decode cX13_digest 28 = .ok (.ladd, 1) := by decide +kernel
theorem dX13_digest_29 : decode cX13_digest 29 = .ok (.lstore_n 1, 1) := by decide +kernel
theorem dX13_digest_30 : decode cX13_digest 30 = .ok (.iinc 3 1, 3) := by decide +kernel
theorem dX13_digest_33 : decode cX13_digest 33 = .ok (.goto (-22), 3) := by decide +kernel
theorem dX13_digest_36 : decode cX13_digest 36 = .ok (.iconst 0, 1) := by decide +kernel
theorem dX13_digest_37 : decode cX13_digest 37 = .ok (.istore_n 3, 1) := by decide +kernel
theorem dX13_digest_38 : decode cX13_digest 38 = .ok (.iload_n 3, 1) := by decide +kernel
theorem dX13_digest_39 : decode cX13_digest 39 = .ok (.aload_n 0, 1) := by decide +kernel
theorem dX13_digest_40 : decode cX13_digest 40 = .ok (.getfield 84, 3) := by decide +kernel
theorem dX13_digest_43 : decode cX13_digest 43 = .ok (.if_icmp .ge 39, 3) := by decide +kernel
theorem dX13_digest_46 : decode cX13_digest 46 = .ok (.iconst 0, 1) := by decide +kernel
theorem dX13_digest_47 : decode cX13_digest 47 = .ok (.istore 4, 2) := by decide +kernel
theorem dX13_digest_49 : decode cX13_digest 49 = .ok (.iload 4, 2) := by decide +kernel
theorem dX13_digest_51 : decode cX13_digest 51 = .ok (.iconst 4, 1) := by decide +kernel
theorem dX13_digest_52 : decode cX13_digest 52 = .ok (.if_icmp .ge 24, 3) := by decide +kernel
theorem dX13_digest_55 : decode cX13_digest 55 = .ok (.lload_n 1, 1) := by decide +kernel
theorem dX13_digest_56 : decode cX13_digest 56 = .ok (.ldc2_w 281, 3) := by decide +kernel
theorem dX13_digest_59 : decode cX13_digest 59 = .ok (.lmul, 1) := by decide +kernel
theorem dX13_digest_60 : decode cX13_digest 60 = .ok (.aload_n 0, 1) := by decide +kernel
theorem dX13_digest_61 : decode cX13_digest 61 = .ok (.iload_n 3, 1) := by decide +kernel
theorem dX13_digest_62 : decode cX13_digest 62 = .ok (.iload 4, 2) := by decide +kernel
theorem dX13_digest_64 : decode cX13_digest 64 = .ok (.invokevirtual 148, 3) := by decide +kernel
theorem dX13_digest_67 : decode cX13_digest 67 = .ok (.i2l, 1) := by decide +kernel
theorem dX13_digest_68 : decode cX13_digest 68 = .ok (.ladd, 1) := by decide +kernel
theorem dX13_digest_69 : decode cX13_digest 69 = .ok (.lstore_n 1, 1) := by decide +kernel
theorem dX13_digest_70 : decode cX13_digest 70 = .ok (.iinc 4 1, 3) := by decide +kernel
theorem dX13_digest_73 : decode cX13_digest 73 = .ok (.goto (-24), 3) := by decide +kernel
theorem dX13_digest_76 : decode cX13_digest 76 = .ok (.iinc 3 1, 3) := by decide +kernel
theorem dX13_digest_79 : decode cX13_digest 79 = .ok (.goto (-41), 3) := by decide +kernel
theorem dX13_digest_82 : decode cX13_digest 82 = .ok (.iconst 0, 1) := by decide +kernel
theorem dX13_digest_83 : decode cX13_digest 83 = .ok (.istore_n 3, 1) := by decide +kernel
theorem dX13_digest_84 : decode cX13_digest 84 = .ok (.iload_n 3, 1) := by decide +kernel
theorem dX13_digest_85 : decode cX13_digest 85 = .ok (.aload_n 0, 1) := by decide +kernel
theorem dX13_digest_86 : decode cX13_digest 86 = .ok (.getfield 91, 3) := by decide +kernel
theorem dX13_digest_89 : decode cX13_digest 89 = .ok (.if_icmp .ge 40, 3) := by decide +kernel
theorem dX13_digest_92 : decode cX13_digest 92 = .ok (.iconst 0, 1) := by decide +kernel
theorem dX13_digest_93 : decode cX13_digest 93 = .ok (.istore 4, 2) := by decide +kernel
theorem dX13_digest_95 : decode cX13_digest 95 = .ok (.iload 4, 2) := by decide +kernel
theorem dX13_digest_97 : decode cX13_digest 97 = .ok (.bipush 7, 2) := by decide +kernel
theorem dX13_digest_99 : decode cX13_digest 99 = .ok (.if_icmp .ge 24, 3) := by decide +kernel
theorem dX13_digest_102 : decode cX13_digest 102 = .ok (.lload_n 1, 1) := by decide +kernel
theorem dX13_digest_103 : decode cX13_digest 103 = .ok (.ldc2_w 281, 3) := by decide +kernel
theorem dX13_digest_106 : decode cX13_digest 106 = .ok (.lmul, 1) := by decide +kernel
theorem dX13_digest_107 : decode cX13_digest 107 = .ok (.aload_n 0, 1) := by decide +kernel
theorem dX13_digest_108 : decode cX13_digest 108 = .ok (.iload_n 3, 1) := by decide +kernel
theorem dX13_digest_109 : decode cX13_digest 109 = .ok (.iload 4, 2) := by decide +kernel
theorem dX13_digest_111 : decode cX13_digest 111 = .ok (.invokevirtual 170, 3) := by decide +kernel
theorem dX13_digest_114 : decode cX13_digest 114 = .ok (.i2l, 1) := by decide +kernel
theorem dX13_digest_115 : decode cX13_digest 115 = .ok (.ladd, 1) := by decide +kernel
theorem dX13_digest_116 : decode cX13_digest 116 = .ok (.lstore_n 1, 1) := by decide +kernel
theorem dX13_digest_117 : decode cX13_digest 117 = .ok (.iinc 4 1, 3) := by decide +kernel
theorem dX13_digest_120 : decode cX13_digest 120 = .ok (.goto (-25), 3) := by decide +kernel
theorem dX13_digest_123 : decode cX13_digest 123 = .ok (.iinc 3 1, 3) := by decide +kernel
theorem dX13_digest_126 : decode cX13_digest 126 = .ok (.goto (-42), 3) := by decide +kernel
theorem dX13_digest_129 : decode cX13_digest 129 = .ok (.iconst 0, 1) := by decide +kernel
theorem dX13_digest_130 : decode cX13_digest 130 = .ok (.istore_n 3, 1) := by decide +kernel
theorem dX13_digest_131 : decode cX13_digest 131 = .ok (.iload_n 3, 1) := by decide +kernel
theorem dX13_digest_132 : decode cX13_digest 132 = .ok (.bipush 20, 2) := by decide +kernel
theorem dX13_digest_134 : decode cX13_digest 134 = .ok (.if_icmp .ge 39, 3) := by decide +kernel
theorem dX13_digest_137 : decode cX13_digest 137 = .ok (.iconst 0, 1) := by decide +kernel
theorem dX13_digest_138 : decode cX13_digest 138 = .ok (.istore 4, 2) := by decide +kernel
theorem dX13_digest_140 : decode cX13_digest 140 = .ok (.iload 4, 2) := by decide +kernel
theorem dX13_digest_142 : decode cX13_digest 142 = .ok (.iconst 5, 1) := by decide +kernel
theorem dX13_digest_143 : decode cX13_digest 143 = .ok (.if_icmp .ge 24, 3) := by decide +kernel
theorem dX13_digest_146 : decode cX13_digest 146 = .ok (.lload_n 1, 1) := by decide +kernel
theorem dX13_digest_147 : decode cX13_digest 147 = .ok (.ldc2_w 281, 3) := by decide +kernel
theorem dX13_digest_150 : decode cX13_digest 150 = .ok (.lmul, 1) := by decide +kernel
theorem dX13_digest_151 : decode cX13_digest 151 = .ok (.aload_n 0, 1) := by decide +kernel
theorem dX13_digest_152 : decode cX13_digest 152 = .ok (.iload_n 3, 1) := by decide +kernel
theorem dX13_digest_153 : decode cX13_digest 153 = .ok (.iload 4, 2) := by decide +kernel
theorem dX13_digest_155 : decode cX13_digest 155 = .ok (.invokevirtual 176, 3) := by decide +kernel
theorem dX13_digest_158 : decode cX13_digest 158 = .ok (.i2l, 1) := by decide +kernel
theorem dX13_digest_159 : decode cX13_digest 159 = .ok (.ladd, 1) := by decide +kernel
theorem dX13_digest_160 : decode cX13_digest 160 = .ok (.lstore_n 1, 1) := by decide +kernel
theorem dX13_digest_161 : decode cX13_digest 161 = .ok (.iinc 4 1, 3) := by decide +kernel
theorem dX13_digest_164 : decode cX13_digest 164 = .ok (.goto (-24), 3) := by decide +kernel
theorem dX13_digest_167 : decode cX13_digest 167 = .ok (.iinc 3 1, 3) := by decide +kernel
theorem dX13_digest_170 : decode cX13_digest 170 = .ok (.goto (-39), 3) := by decide +kernel
theorem dX13_digest_173 : decode cX13_digest 173 = .ok (.aload_n 0, 1) := by decide +kernel
theorem dX13_digest_174 : decode cX13_digest 174 = .ok (.getfield 135, 3) := by decide +kernel
theorem dX13_digest_177 : decode cX13_digest 177 = .ok (.ifCond .eq 77, 3) := by decide +kernel
theorem dX13_digest_180 : decode cX13_digest 180 = .ok (.iconst 0, 1) := by decide +kernel
theorem dX13_digest_181 : decode cX13_digest 181 = .ok (.istore_n 3, 1) := by decide +kernel
theorem dX13_digest_182 : decode cX13_digest 182 = .ok (.iload_n 3, 1) := by decide +kernel
theorem dX13_digest_183 : decode cX13_digest 183 = .ok (.iconst 4, 1) := by decide +kernel
theorem dX13_digest_184 : decode cX13_digest 184 = .ok (.aload_n 0, 1) := by decide +kernel
theorem dX13_digest_185 : decode cX13_digest 185 = .ok (.getfield 139, 3) := by decide +kernel
theorem dX13_digest_188 : decode cX13_digest 188 = .ok (.getfield 158, 3) := by decide +kernel
theorem dX13_digest_191 : decode cX13_digest 191 = .ok (.imul, 1) := by decide +kernel
theorem dX13_digest_192 : decode cX13_digest 192 = .ok (.if_icmp .ge 26, 3) := by decide +kernel
theorem dX13_digest_195 : decode cX13_digest 195 = .ok (.lload_n 1, 1) := by decide +kernel
theorem dX13_digest_196 : decode cX13_digest 196 = .ok (.ldc2_w 281, 3) := by decide +kernel
theorem dX13_digest_199 : decode cX13_digest 199 = .ok (.lmul, 1) := by decide +kernel
theorem dX13_digest_200 : decode cX13_digest 200 = .ok (.aload_n 0, 1) := by decide +kernel
theorem dX13_digest_201 : decode cX13_digest 201 = .ok (.getfield 139, 3) := by decide +kernel
theorem dX13_digest_204 : decode cX13_digest 204 = .ok (.getfield 179, 3) := by decide +kernel
theorem dX13_digest_207 : decode cX13_digest 207 = .ok (.iload_n 3, 1) := by decide +kernel
theorem dX13_digest_208 : decode cX13_digest 208 = .ok (.iaload, 1) := by decide +kernel
theorem dX13_digest_209 : decode cX13_digest 209 = .ok (.i2l, 1) := by decide +kernel
theorem dX13_digest_210 : decode cX13_digest 210 = .ok (.ladd, 1) := by decide +kernel
theorem dX13_digest_211 : decode cX13_digest 211 = .ok (.lstore_n 1, 1) := by decide +kernel
theorem dX13_digest_212 : decode cX13_digest 212 = .ok (.iinc 3 1, 3) := by decide +kernel
theorem dX13_digest_215 : decode cX13_digest 215 = .ok (.goto (-33), 3) := by decide +kernel
theorem dX13_digest_218 : decode cX13_digest 218 = .ok (.iconst 0, 1) := by decide +kernel
theorem dX13_digest_219 : decode cX13_digest 219 = .ok (.istore_n 3, 1) := by decide +kernel
theorem dX13_digest_220 : decode cX13_digest 220 = .ok (.iload_n 3, 1) := by decide +kernel
theorem dX13_digest_221 : decode cX13_digest 221 = .ok (.aload_n 0, 1) := by decide +kernel
theorem dX13_digest_222 : decode cX13_digest 222 = .ok (.getfield 139, 3) := by decide +kernel
theorem dX13_digest_225 : decode cX13_digest 225 = .ok (.getfield 182, 3) := by decide +kernel
theorem dX13_digest_228 : decode cX13_digest 228 = .ok (.if_icmp .ge 26, 3) := by decide +kernel
theorem dX13_digest_231 : decode cX13_digest 231 = .ok (.lload_n 1, 1) := by decide +kernel
theorem dX13_digest_232 : decode cX13_digest 232 = .ok (.ldc2_w 281, 3) := by decide +kernel
theorem dX13_digest_235 : decode cX13_digest 235 = .ok (.lmul, 1) := by decide +kernel
theorem dX13_digest_236 : decode cX13_digest 236 = .ok (.aload_n 0, 1) := by decide +kernel
theorem dX13_digest_237 : decode cX13_digest 237 = .ok (.getfield 139, 3) := by decide +kernel
theorem dX13_digest_240 : decode cX13_digest 240 = .ok (.getfield 185, 3) := by decide +kernel
theorem dX13_digest_243 : decode cX13_digest 243 = .ok (.iload_n 3, 1) := by decide +kernel
theorem dX13_digest_244 : decode cX13_digest 244 = .ok (.iaload, 1) := by decide +kernel
theorem dX13_digest_245 : decode cX13_digest 245 = .ok (.i2l, 1) := by decide +kernel
theorem dX13_digest_246 : decode cX13_digest 246 = .ok (.ladd, 1) := by decide +kernel
theorem dX13_digest_247 : decode cX13_digest 247 = .ok (.lstore_n 1, 1) := by decide +kernel
theorem dX13_digest_248 : decode cX13_digest 248 = .ok (.iinc 3 1, 3) := by decide +kernel
theorem dX13_digest_251 : decode cX13_digest 251 = .ok (.goto (-31), 3) := by decide +kernel
theorem dX13_digest_254 : decode cX13_digest 254 = .ok (.iconst 0, 1) := by decide +kernel
theorem dX13_digest_255 : decode cX13_digest 255 = .ok (.istore_n 3, 1) := by decide +kernel
theorem dX13_digest_256 : decode cX13_digest 256 = .ok (.iload_n 3, 1) := by decide +kernel
theorem dX13_digest_257 : decode cX13_digest 257 = .ok (.aload_n 0, 1) := by decide +kernel
theorem dX13_digest_258 : decode cX13_digest 258 = .ok (.getfield 188, 3) := by decide +kernel
theorem dX13_digest_261 : decode cX13_digest 261 = .ok (.if_icmp .ge 116, 3) := by decide +kernel
theorem dX13_digest_264 : decode cX13_digest 264 = .ok (.iconst 0, 1) := by decide +kernel
theorem dX13_digest_265 : decode cX13_digest 265 = .ok (.istore 4, 2) := by decide +kernel
theorem dX13_digest_267 : decode cX13_digest 267 = .ok (.iload 4, 2) := by decide +kernel
theorem dX13_digest_269 : decode cX13_digest 269 = .ok (.bipush 8, 2) := by decide +kernel
theorem dX13_digest_271 : decode cX13_digest 271 = .ok (.if_icmp .ge 24, 3) := by decide +kernel
theorem dX13_digest_274 : decode cX13_digest 274 = .ok (.lload_n 1, 1) := by decide +kernel
theorem dX13_digest_275 : decode cX13_digest 275 = .ok (.ldc2_w 281, 3) := by decide +kernel
theorem dX13_digest_278 : decode cX13_digest 278 = .ok (.lmul, 1) := by decide +kernel
theorem dX13_digest_279 : decode cX13_digest 279 = .ok (.aload_n 0, 1) := by decide +kernel
theorem dX13_digest_280 : decode cX13_digest 280 = .ok (.iload_n 3, 1) := by decide +kernel
theorem dX13_digest_281 : decode cX13_digest 281 = .ok (.iload 4, 2) := by decide +kernel
theorem dX13_digest_283 : decode cX13_digest 283 = .ok (.invokevirtual 255, 3) := by decide +kernel
theorem dX13_digest_286 : decode cX13_digest 286 = .ok (.i2l, 1) := by decide +kernel
theorem dX13_digest_287 : decode cX13_digest 287 = .ok (.ladd, 1) := by decide +kernel
theorem dX13_digest_288 : decode cX13_digest 288 = .ok (.lstore_n 1, 1) := by decide +kernel
theorem dX13_digest_289 : decode cX13_digest 289 = .ok (.iinc 4 1, 3) := by decide +kernel
theorem dX13_digest_292 : decode cX13_digest 292 = .ok (.goto (-25), 3) := by decide +kernel
theorem dX13_digest_295 : decode cX13_digest 295 = .ok (.lload_n 1, 1) := by decide +kernel
theorem dX13_digest_296 : decode cX13_digest 296 = .ok (.ldc2_w 281, 3) := by decide +kernel
theorem dX13_digest_299 : decode cX13_digest 299 = .ok (.lmul, 1) := by decide +kernel
theorem dX13_digest_300 : decode cX13_digest 300 = .ok (.aload_n 0, 1) := by decide +kernel
theorem dX13_digest_301 : decode cX13_digest 301 = .ok (.iload_n 3, 1) := by decide +kernel
theorem dX13_digest_302 : decode cX13_digest 302 = .ok (.invokevirtual 234, 3) := by decide +kernel
theorem dX13_digest_305 : decode cX13_digest 305 = .ok (.i2l, 1) := by decide +kernel
theorem dX13_digest_306 : decode cX13_digest 306 = .ok (.ladd, 1) := by decide +kernel
theorem dX13_digest_307 : decode cX13_digest 307 = .ok (.lstore_n 1, 1) := by decide +kernel
theorem dX13_digest_308 : decode cX13_digest 308 = .ok (.iconst 0, 1) := by decide +kernel
theorem dX13_digest_309 : decode cX13_digest 309 = .ok (.istore 4, 2) := by decide +kernel
theorem dX13_digest_311 : decode cX13_digest 311 = .ok (.iload 4, 2) := by decide +kernel
theorem dX13_digest_313 : decode cX13_digest 313 = .ok (.bipush 20, 2) := by decide +kernel
theorem dX13_digest_315 : decode cX13_digest 315 = .ok (.if_icmp .ge 56, 3) := by decide +kernel
theorem dX13_digest_318 : decode cX13_digest 318 = .ok (.iconst 0, 1) := by decide +kernel
theorem dX13_digest_319 : decode cX13_digest 319 = .ok (.istore 5, 2) := by decide +kernel
theorem dX13_digest_321 : decode cX13_digest 321 = .ok (.iload 5, 2) := by decide +kernel
theorem dX13_digest_323 : decode cX13_digest 323 = .ok (.iconst 4, 1) := by decide +kernel
theorem dX13_digest_324 : decode cX13_digest 324 = .ok (.if_icmp .ge 26, 3) := by decide +kernel
theorem dX13_digest_327 : decode cX13_digest 327 = .ok (.lload_n 1, 1) := by decide +kernel
theorem dX13_digest_328 : decode cX13_digest 328 = .ok (.ldc2_w 281, 3) := by decide +kernel
theorem dX13_digest_331 : decode cX13_digest 331 = .ok (.lmul, 1) := by decide +kernel
theorem dX13_digest_332 : decode cX13_digest 332 = .ok (.aload_n 0, 1) := by decide +kernel
theorem dX13_digest_333 : decode cX13_digest 333 = .ok (.iload_n 3, 1) := by decide +kernel
theorem dX13_digest_334 : decode cX13_digest 334 = .ok (.iload 4, 2) := by decide +kernel
theorem dX13_digest_336 : decode cX13_digest 336 = .ok (.iload 5, 2) := by decide +kernel
theorem dX13_digest_338 : decode cX13_digest 338 = .ok (.invokevirtual 246, 3) := by decide +kernel
theorem dX13_digest_341 : decode cX13_digest 341 = .ok (.i2l, 1) := by decide +kernel
theorem dX13_digest_342 : decode cX13_digest 342 = .ok (.ladd, 1) := by decide +kernel
theorem dX13_digest_343 : decode cX13_digest 343 = .ok (.lstore_n 1, 1) := by decide +kernel
theorem dX13_digest_344 : decode cX13_digest 344 = .ok (.iinc 5 1, 3) := by decide +kernel
theorem dX13_digest_347 : decode cX13_digest 347 = .ok (.goto (-26), 3) := by decide +kernel
theorem dX13_digest_350 : decode cX13_digest 350 = .ok (.lload_n 1, 1) := by decide +kernel
theorem dX13_digest_351 : decode cX13_digest 351 = .ok (.ldc2_w 281, 3) := by decide +kernel
theorem dX13_digest_354 : decode cX13_digest 354 = .ok (.lmul, 1) := by decide +kernel
theorem dX13_digest_355 : decode cX13_digest 355 = .ok (.aload_n 0, 1) := by decide +kernel
theorem dX13_digest_356 : decode cX13_digest 356 = .ok (.iload_n 3, 1) := by decide +kernel
theorem dX13_digest_357 : decode cX13_digest 357 = .ok (.iload 4, 2) := by decide +kernel
theorem dX13_digest_359 : decode cX13_digest 359 = .ok (.invokevirtual 276, 3) := by decide +kernel
theorem dX13_digest_362 : decode cX13_digest 362 = .ok (.i2l, 1) := by decide +kernel
theorem dX13_digest_363 : decode cX13_digest 363 = .ok (.ladd, 1) := by decide +kernel
theorem dX13_digest_364 : decode cX13_digest 364 = .ok (.lstore_n 1, 1) := by decide +kernel
theorem dX13_digest_365 : decode cX13_digest 365 = .ok (.iinc 4 1, 3) := by decide +kernel
theorem dX13_digest_368 : decode cX13_digest 368 = .ok (.goto (-57), 3) := by decide +kernel
theorem dX13_digest_371 : decode cX13_digest 371 = .ok (.iinc 3 1, 3) := by decide +kernel
theorem dX13_digest_374 : decode cX13_digest 374 = .ok (.goto (-118), 3) := by decide +kernel
theorem dX13_digest_377 : decode cX13_digest 377 = .ok (.aload_n 0, 1) := by decide +kernel
theorem dX13_digest_378 : decode cX13_digest 378 = .ok (.getfield 135, 3) := by decide +kernel
theorem dX13_digest_381 : decode cX13_digest 381 = .ok (.ifCond .ne 5, 3) := by decide +kernel
theorem dX13_digest_384 : decode cX13_digest 384 = .ok (.lload_n 1, 1) := by decide +kernel
theorem dX13_digest_385 : decode cX13_digest 385 = .ok (.lreturn, 1) := by decide +kernel
theorem dX13_digest_386 : decode cX13_digest 386 = .ok (.lload_n 1, 1) := by decide +kernel
theorem dX13_digest_387 : decode cX13_digest 387 = .ok (.ldc2_w 281, 3) := by decide +kernel
theorem dX13_digest_390 : decode cX13_digest 390 = .ok (.lmul, 1) := by decide +kernel
theorem dX13_digest_391 : decode cX13_digest 391 = .ok (.new 144, 3) := by decide +kernel
theorem dX13_digest_394 : decode cX13_digest 394 = .ok (.dup, 1) := by decide +kernel
theorem dX13_digest_395 : decode cX13_digest 395 = .ok (.aload_n 0, 1) := by decide +kernel
theorem dX13_digest_396 : decode cX13_digest 396 = .ok (.aload_n 0, 1) := by decide +kernel
theorem dX13_digest_397 : decode cX13_digest 397 = .ok (.getfield 139, 3) := by decide +kernel
theorem dX13_digest_400 : decode cX13_digest 400 = .ok (.getfield 273, 3) := by decide +kernel
theorem dX13_digest_403 : decode cX13_digest 403 = .ok (.aload_n 0, 1) := by decide +kernel
theorem dX13_digest_404 : decode cX13_digest 404 = .ok (.getfield 139, 3) := by decide +kernel
theorem dX13_digest_407 : decode cX13_digest 407 = .ok (.getfield 191, 3) := by decide +kernel
theorem dX13_digest_410 : decode cX13_digest 410 = .ok (.bipush 10, 2) := by decide +kernel
theorem dX13_digest_412 : decode cX13_digest 412 = .ok (.aload_n 0, 1) := by decide +kernel
theorem dX13_digest_413 : decode cX13_digest 413 = .ok (.getfield 48, 3) := by decide +kernel
theorem dX13_digest_416 : decode cX13_digest 416 = .ok (.iconst (-1), 1) := by decide +kernel
theorem dX13_digest_417 : decode cX13_digest 417 = .ok (.invokespecial 152, 3) := by decide +kernel
theorem dX13_digest_420 : decode cX13_digest 420 = .ok (.getfield 182, 3) := by decide +kernel
theorem dX13_digest_423 : decode cX13_digest 423 = .ok (.i2l, 1) := by decide +kernel
theorem dX13_digest_424 : decode cX13_digest 424 = .ok (.ladd, 1) := by decide +kernel
theorem dX13_digest_425 : decode cX13_digest 425 = .ok (.lstore_n 1, 1) := by decide +kernel
theorem dX13_digest_426 : decode cX13_digest 426 = .ok (.iconst 0, 1) := by decide +kernel
theorem dX13_digest_427 : decode cX13_digest 427 = .ok (.istore_n 3, 1) := by decide +kernel
theorem dX13_digest_428 : decode cX13_digest 428 = .ok (.iload_n 3, 1) := by decide +kernel
theorem dX13_digest_429 : decode cX13_digest 429 = .ok (.aload_n 0, 1) := by decide +kernel
theorem dX13_digest_430 : decode cX13_digest 430 = .ok (.getfield 84, 3) := by decide +kernel
theorem dX13_digest_433 : decode cX13_digest 433 = .ok (.if_icmp .ge 51, 3) := by decide +kernel
theorem dX13_digest_436 : decode cX13_digest 436 = .ok (.lload_n 1, 1) := by decide +kernel
theorem dX13_digest_437 : decode cX13_digest 437 = .ok (.ldc2_w 281, 3) := by decide +kernel
theorem dX13_digest_440 : decode cX13_digest 440 = .ok (.lmul, 1) := by decide +kernel
theorem dX13_digest_441 : decode cX13_digest 441 = .ok (.new 144, 3) := by decide +kernel
theorem dX13_digest_444 : decode cX13_digest 444 = .ok (.dup, 1) := by decide +kernel
theorem dX13_digest_445 : decode cX13_digest 445 = .ok (.aload_n 0, 1) := by decide +kernel
theorem dX13_digest_446 : decode cX13_digest 446 = .ok (.aload_n 0, 1) := by decide +kernel
theorem dX13_digest_447 : decode cX13_digest 447 = .ok (.getfield 139, 3) := by decide +kernel
theorem dX13_digest_450 : decode cX13_digest 450 = .ok (.getfield 273, 3) := by decide +kernel
theorem dX13_digest_453 : decode cX13_digest 453 = .ok (.aload_n 0, 1) := by decide +kernel
theorem dX13_digest_454 : decode cX13_digest 454 = .ok (.getfield 139, 3) := by decide +kernel
theorem dX13_digest_457 : decode cX13_digest 457 = .ok (.getfield 191, 3) := by decide +kernel
theorem dX13_digest_460 : decode cX13_digest 460 = .ok (.aload_n 0, 1) := by decide +kernel
theorem dX13_digest_461 : decode cX13_digest 461 = .ok (.getfield 44, 3) := by decide +kernel
theorem dX13_digest_464 : decode cX13_digest 464 = .ok (.aload_n 0, 1) := by decide +kernel
theorem dX13_digest_465 : decode cX13_digest 465 = .ok (.getfield 48, 3) := by decide +kernel
theorem dX13_digest_468 : decode cX13_digest 468 = .ok (.iload_n 3, 1) := by decide +kernel
theorem dX13_digest_469 : decode cX13_digest 469 = .ok (.invokespecial 152, 3) := by decide +kernel
theorem dX13_digest_472 : decode cX13_digest 472 = .ok (.getfield 158, 3) := by decide +kernel
theorem dX13_digest_475 : decode cX13_digest 475 = .ok (.i2l, 1) := by decide +kernel
theorem dX13_digest_476 : decode cX13_digest 476 = .ok (.ladd, 1) := by decide +kernel
theorem dX13_digest_477 : decode cX13_digest 477 = .ok (.lstore_n 1, 1) := by decide +kernel
theorem dX13_digest_478 : decode cX13_digest 478 = .ok (.iinc 3 1, 3) := by decide +kernel
theorem dX13_digest_481 : decode cX13_digest 481 = .ok (.goto (-53), 3) := by decide +kernel
theorem dX13_digest_484 : decode cX13_digest 484 = .ok (.lload_n 1, 1) := by decide +kernel
theorem dX13_digest_485 : decode cX13_digest 485 = .ok (.lreturn, 1) := by decide +kernel
def g_X13_digest : Nat → EA := (t_n 243 (t_n 116 (t_n 56 (t_n 27 (t_n 12 (t_n 8 (t_n 2 (t_n 1 (t_l 0 (a_aload 1 0)) (t_l 1 (a_push 1 (.int 0)))) (t_n 5 (t_l 2 (a_putf 0 13 0)) (t_l 5 (a_push 3 (.long 58133))))) (t_n 10 (t_n 9 (t_l 8 (a_lstore 6 1 1)) (t_l 9 (a_push 1 (.int 0)))) (t_n 11 (t_l 10 (a_istore 6 1 3)) (t_l 11 (a_iload 1 3))))) (t_n 21 (t_n 17 (t_n 14 (t_l 12 (a_push 2 (.int 13))) (t_l 14 (a_ic 36 (fun x y => decide (y ≤ x))))) (t_n 18 (t_l 17 (a_lload 1 1)) (t_l 18 (a_push 3 (.long 31))))) (t_n 23 (t_n 22 (t_l 21 (a_ll (fun x y => .long (x * y)))) (t_l 22 (a_aload 1 0))) (t_n 24 (t_l 23 (a_iload 1 3)) (t_l 24 (a_inv true 281 2 (some 13))))))) (t_n 39 (t_n 33 (t_n 29 (t_n 28 (t_l 27 (a_i (fun x => .long x.toInt64))) (t_l 28 (a_ll (fun x y => .long (x + y))))) (t_n 30 (t_l 29 (a_lstore 6 1 1)) (t_l 30 (a_iinc 6 3 1)))) (t_n 37 (t_n 36 (t_l 33 (a_goto 11)) (t_l 36 (a_push 1 (.int 0)))) (t_n 38 (t_l 37 (a_istore 6 1 3)) (t_l 38 (a_iload 1 3))))) (t_n 47 (t_n 43 (t_n 40 (t_l 39 (a_aload 1 0)) (t_l 40 (a_getf 13 1))) (t_n 46 (t_l 43 (a_ic 82 (fun x y => decide (y ≤ x)))) (t_l 46 (a_push 1 (.int 0))))) (t_n 51 (t_n 49 (t_l 47 (a_istore 6 2 4)) (t_l 49 (a_iload 2 4))) (t_n 52 (t_l 51 (a_push 1 (.int 4))) (t_n 55 (t_l 52 (a_ic 76 (fun x y => decide (y ≤ x)))) (t_l 55 (a_lload 1 1)))))))) (t_n 85 (t_n 69 (t_n 62 (t_n 60 (t_n 59 (t_l 56 (a_push 3 (.long 31))) (t_l 59 (a_ll (fun x y => .long (x * y))))) (t_n 61 (t_l 60 (a_aload 1 0)) (t_l 61 (a_iload 1 3)))) (t_n 67 (t_n 64 (t_l 62 (a_iload 2 4)) (t_l 64 (a_inv true 250 3 (some 13)))) (t_n 68 (t_l 67 (a_i (fun x => .long x.toInt64))) (t_l 68 (a_ll (fun x y => .long (x + y))))))) (t_n 79 (t_n 73 (t_n 70 (t_l 69 (a_lstore 6 1 1)) (t_l 70 (a_iinc 6 4 1))) (t_n 76 (t_l 73 (a_goto 49)) (t_l 76 (a_iinc 6 3 1)))) (t_n 83 (t_n 82 (t_l 79 (a_goto 38)) (t_l 82 (a_push 1 (.int 0)))) (t_n 84 (t_l 83 (a_istore 6 1 3)) (t_l 84 (a_iload 1 3)))))) (t_n 102 (t_n 93 (t_n 89 (t_n 86 (t_l 85 (a_aload 1 0)) (t_l 86 (a_getf 13 2))) (t_n 92 (t_l 89 (a_ic 129 (fun x y => decide (y ≤ x)))) (t_l 92 (a_push 1 (.int 0))))) (t_n 97 (t_n 95 (t_l 93 (a_istore 6 2 4)) (t_l 95 (a_iload 2 4))) (t_n 99 (t_l 97 (a_push 2 (.int 7))) (t_l 99 (a_ic 123 (fun x y => decide (y ≤ x))))))) (t_n 108 (t_n 106 (t_n 103 (t_l 102 (a_lload 1 1)) (t_l 103 (a_push 3 (.long 31)))) (t_n 107 (t_l 106 (a_ll (fun x y => .long (x * y)))) (t_l 107 (a_aload 1 0)))) (t_n 111 (t_n 109 (t_l 108 (a_iload 1 3)) (t_l 109 (a_iload 2 4))) (t_n 114 (t_l 111 (a_inv true 254 3 (some 13))) (t_n 115 (t_l 114 (a_i (fun x => .long x.toInt64))) (t_l 115 (a_ll (fun x y => .long (x + y))))))))))) (t_n 181 (t_n 147 (t_n 132 (t_n 126 (t_n 120 (t_n 117 (t_l 116 (a_lstore 6 1 1)) (t_l 117 (a_iinc 6 4 1))) (t_n 123 (t_l 120 (a_goto 95)) (t_l 123 (a_iinc 6 3 1)))) (t_n 130 (t_n 129 (t_l 126 (a_goto 84)) (t_l 129 (a_push 1 (.int 0)))) (t_n 131 (t_l 130 (a_istore 6 1 3)) (t_l 131 (a_iload 1 3))))) (t_n 140 (t_n 137 (t_n 134 (t_l 132 (a_push 2 (.int 20))) (t_l 134 (a_ic 173 (fun x y => decide (y ≤ x))))) (t_n 138 (t_l 137 (a_push 1 (.int 0))) (t_l 138 (a_istore 6 2 4)))) (t_n 143 (t_n 142 (t_l 140 (a_iload 2 4)) (t_l 142 (a_push 1 (.int 5)))) (t_n 146 (t_l 143 (a_ic 167 (fun x y => decide (y ≤ x)))) (t_l 146 (a_lload 1 1)))))) (t_n 160 (t_n 153 (t_n 151 (t_n 150 (t_l 147 (a_push 3 (.long 31))) (t_l 150 (a_ll (fun x y => .long (x * y))))) (t_n 152 (t_l 151 (a_aload 1 0)) (t_l 152 (a_iload 1 3)))) (t_n 158 (t_n 155 (t_l 153 (a_iload 2 4)) (t_l 155 (a_inv true 256 3 (some 13)))) (t_n 159 (t_l 158 (a_i (fun x => .long x.toInt64))) (t_l 159 (a_ll (fun x y => .long (x + y))))))) (t_n 170 (t_n 164 (t_n 161 (t_l 160 (a_lstore 6 1 1)) (t_l 161 (a_iinc 6 4 1))) (t_n 167 (t_l 164 (a_goto 140)) (t_l 167 (a_iinc 6 3 1)))) (t_n 174 (t_n 173 (t_l 170 (a_goto 131)) (t_l 173 (a_aload 1 0))) (t_n 177 (t_l 174 (a_getf 13 17)) (t_n 180 (t_l 177 (a_if 254 (fun x => decide (x = 0)))) (t_l 180 (a_push 1 (.int 0))))))))) (t_n 210 (t_n 195 (t_n 185 (t_n 183 (t_n 182 (t_l 181 (a_istore 6 1 3)) (t_l 182 (a_iload 1 3))) (t_n 184 (t_l 183 (a_push 1 (.int 4))) (t_l 184 (a_aload 1 0)))) (t_n 191 (t_n 188 (t_l 185 (a_getf 13 18)) (t_l 188 (a_getf 12 21))) (t_n 192 (t_l 191 (a_ii 1 (fun x y => x * y))) (t_l 192 (a_ic 218 (fun x y => decide (y ≤ x))))))) (t_n 201 (t_n 199 (t_n 196 (t_l 195 (a_lload 1 1)) (t_l 196 (a_push 3 (.long 31)))) (t_n 200 (t_l 199 (a_ll (fun x y => .long (x * y)))) (t_l 200 (a_aload 1 0)))) (t_n 207 (t_n 204 (t_l 201 (a_getf 13 18)) (t_l 204 (a_getf 12 22))) (t_n 208 (t_l 207 (a_iload 1 3)) (t_n 209 (t_l 208 (a_ild 0)) (t_l 209 (a_i (fun x => .long x.toInt64)))))))) (t_n 222 (t_n 218 (t_n 212 (t_n 211 (t_l 210 (a_ll (fun x y => .long (x + y)))) (t_l 211 (a_lstore 6 1 1))) (t_n 215 (t_l 212 (a_iinc 6 3 1)) (t_l 215 (a_goto 182)))) (t_n 220 (t_n 219 (t_l 218 (a_push 1 (.int 0))) (t_l 219 (a_istore 6 1 3))) (t_n 221 (t_l 220 (a_iload 1 3)) (t_l 221 (a_aload 1 0))))) (t_n 232 (t_n 228 (t_n 225 (t_l 222 (a_getf 13 18)) (t_l 225 (a_getf 12 19))) (t_n 231 (t_l 228 (a_ic 254 (fun x y => decide (y ≤ x)))) (t_l 231 (a_lload 1 1)))) (t_n 236 (t_n 235 (t_l 232 (a_push 3 (.long 31))) (t_l 235 (a_ll (fun x y => .long (x * y))))) (t_n 237 (t_l 236 (a_aload 1 0)) (t_n 240 (t_l 237 (a_getf 13 18)) (t_l 240 (a_getf 12 23)))))))))) (t_n 357 (t_n 300 (t_n 269 (t_n 255 (t_n 247 (t_n 245 (t_n 244 (t_l 243 (a_iload 1 3)) (t_l 244 (a_ild 0))) (t_n 246 (t_l 245 (a_i (fun x => .long x.toInt64))) (t_l 246 (a_ll (fun x y => .long (x + y)))))) (t_n 251 (t_n 248 (t_l 247 (a_lstore 6 1 1)) (t_l 248 (a_iinc 6 3 1))) (t_n 254 (t_l 251 (a_goto 220)) (t_l 254 (a_push 1 (.int 0)))))) (t_n 261 (t_n 257 (t_n 256 (t_l 255 (a_istore 6 1 3)) (t_l 256 (a_iload 1 3))) (t_n 258 (t_l 257 (a_aload 1 0)) (t_l 258 (a_getf 13 20)))) (t_n 265 (t_n 264 (t_l 261 (a_ic 377 (fun x y => decide (y ≤ x)))) (t_l 264 (a_push 1 (.int 0)))) (t_n 267 (t_l 265 (a_istore 6 2 4)) (t_l 267 (a_iload 2 4)))))) (t_n 283 (t_n 278 (t_n 274 (t_n 271 (t_l 269 (a_push 2 (.int 8))) (t_l 271 (a_ic 295 (fun x y => decide (y ≤ x))))) (t_n 275 (t_l 274 (a_lload 1 1)) (t_l 275 (a_push 3 (.long 31))))) (t_n 280 (t_n 279 (t_l 278 (a_ll (fun x y => .long (x * y)))) (t_l 279 (a_aload 1 0))) (t_n 281 (t_l 280 (a_iload 1 3)) (t_l 281 (a_iload 2 4))))) (t_n 289 (t_n 287 (t_n 286 (t_l 283 (a_inv true 279 3 (some 13))) (t_l 286 (a_i (fun x => .long x.toInt64)))) (t_n 288 (t_l 287 (a_ll (fun x y => .long (x + y)))) (t_l 288 (a_lstore 6 1 1)))) (t_n 295 (t_n 292 (t_l 289 (a_iinc 6 4 1)) (t_l 292 (a_goto 267))) (t_n 296 (t_l 295 (a_lload 1 1)) (t_n 299 (t_l 296 (a_push 3 (.long 31))) (t_l 299 (a_ll (fun x y => .long (x * y)))))))))) (t_n 328 (t_n 311 (t_n 306 (t_n 302 (t_n 301 (t_l 300 (a_aload 1 0)) (t_l 301 (a_iload 1 3))) (t_n 305 (t_l 302 (a_inv true 270 2 (some 13))) (t_l 305 (a_i (fun x => .long x.toInt64))))) (t_n 308 (t_n 307 (t_l 306 (a_ll (fun x y => .long (x + y)))) (t_l 307 (a_lstore 6 1 1))) (t_n 309 (t_l 308 (a_push 1 (.int 0))) (t_l 309 (a_istore 6 2 4))))) (t_n 319 (t_n 315 (t_n 313 (t_l 311 (a_iload 2 4)) (t_l 313 (a_push 2 (.int 20)))) (t_n 318 (t_l 315 (a_ic 371 (fun x y => decide (y ≤ x)))) (t_l 318 (a_push 1 (.int 0))))) (t_n 323 (t_n 321 (t_l 319 (a_istore 6 2 5)) (t_l 321 (a_iload 2 5))) (t_n 324 (t_l 323 (a_push 1 (.int 4))) (t_n 327 (t_l 324 (a_ic 350 (fun x y => decide (y ≤ x)))) (t_l 327 (a_lload 1 1))))))) (t_n 342 (t_n 334 (t_n 332 (t_n 331 (t_l 328 (a_push 3 (.long 31))) (t_l 331 (a_ll (fun x y => .long (x * y))))) (t_n 333 (t_l 332 (a_aload 1 0)) (t_l 333 (a_iload 1 3)))) (t_n 338 (t_n 336 (t_l 334 (a_iload 2 4)) (t_l 336 (a_iload 2 5))) (t_n 341 (t_l 338 (a_inv true 275 4 (some 13))) (t_l 341 (a_i (fun x => .long x.toInt64)))))) (t_n 350 (t_n 344 (t_n 343 (t_l 342 (a_ll (fun x y => .long (x + y)))) (t_l 343 (a_lstore 6 1 1))) (t_n 347 (t_l 344 (a_iinc 6 5 1)) (t_l 347 (a_goto 321)))) (t_n 354 (t_n 351 (t_l 350 (a_lload 1 1)) (t_l 351 (a_push 3 (.long 31)))) (t_n 355 (t_l 354 (a_ll (fun x y => .long (x * y)))) (t_n 356 (t_l 355 (a_aload 1 0)) (t_l 356 (a_iload 1 3))))))))) (t_n 424 (t_n 390 (t_n 374 (t_n 364 (t_n 362 (t_n 359 (t_l 357 (a_iload 2 4)) (t_l 359 (a_inv true 287 3 (some 13)))) (t_n 363 (t_l 362 (a_i (fun x => .long x.toInt64))) (t_l 363 (a_ll (fun x y => .long (x + y)))))) (t_n 368 (t_n 365 (t_l 364 (a_lstore 6 1 1)) (t_l 365 (a_iinc 6 4 1))) (t_n 371 (t_l 368 (a_goto 311)) (t_l 371 (a_iinc 6 3 1))))) (t_n 384 (t_n 378 (t_n 377 (t_l 374 (a_goto 256)) (t_l 377 (a_aload 1 0))) (t_n 381 (t_l 378 (a_getf 13 17)) (t_l 381 (a_if 386 (fun x => !decide (x = 0)))))) (t_n 386 (t_n 385 (t_l 384 (a_lload 1 1)) (t_l 385 a_lret)) (t_n 387 (t_l 386 (a_lload 1 1)) (t_l 387 (a_push 3 (.long 31))))))) (t_n 404 (t_n 396 (t_n 394 (t_n 391 (t_l 390 (a_ll (fun x y => .long (x * y)))) (t_l 391 (a_new 12 25 [.int 0, .int 0, .int 0, .int 0, .int 0, .null, .null, .null, .null, .null, .null, .null, .null, .null, .null, .null, .null, .null, .int 0, .int 0, .int 0, .int 0, .null, .null, .null]))) (t_n 395 (t_l 394 a_dup) (t_l 395 (a_aload 1 0)))) (t_n 400 (t_n 397 (t_l 396 (a_aload 1 0)) (t_l 397 (a_getf 13 18))) (t_n 403 (t_l 400 (a_getf 12 0)) (t_l 403 (a_aload 1 0))))) (t_n 413 (t_n 410 (t_n 407 (t_l 404 (a_getf 13 18)) (t_l 407 (a_getf 12 3))) (t_n 412 (t_l 410 (a_push 2 (.int 10))) (t_l 412 (a_aload 1 0)))) (t_n 417 (t_n 416 (t_l 413 (a_getf 13 16)) (t_l 416 (a_push 1 (.int (-1))))) (t_n 420 (t_l 417 (a_inv false 203 7 (some 12))) (t_n 423 (t_l 420 (a_getf 12 19)) (t_l 423 (a_i (fun x => .long x.toInt64))))))))) (t_n 453 (t_n 436 (t_n 428 (t_n 426 (t_n 425 (t_l 424 (a_ll (fun x y => .long (x + y)))) (t_l 425 (a_lstore 6 1 1))) (t_n 427 (t_l 426 (a_push 1 (.int 0))) (t_l 427 (a_istore 6 1 3)))) (t_n 430 (t_n 429 (t_l 428 (a_iload 1 3)) (t_l 429 (a_aload 1 0))) (t_n 433 (t_l 430 (a_getf 13 1)) (t_l 433 (a_ic 484 (fun x y => decide (y ≤ x))))))) (t_n 444 (t_n 440 (t_n 437 (t_l 436 (a_lload 1 1)) (t_l 437 (a_push 3 (.long 31)))) (t_n 441 (t_l 440 (a_ll (fun x y => .long (x * y)))) (t_l 441 (a_new 12 25 [.int 0, .int 0, .int 0, .int 0, .int 0, .null, .null, .null, .null, .null, .null, .null, .null, .null, .null, .null, .null, .null, .int 0, .int 0, .int 0, .int 0, .null, .null, .null])))) (t_n 446 (t_n 445 (t_l 444 a_dup) (t_l 445 (a_aload 1 0))) (t_n 447 (t_l 446 (a_aload 1 0)) (t_n 450 (t_l 447 (a_getf 13 18)) (t_l 450 (a_getf 12 0))))))) (t_n 469 (t_n 461 (t_n 457 (t_n 454 (t_l 453 (a_aload 1 0)) (t_l 454 (a_getf 13 18))) (t_n 460 (t_l 457 (a_getf 12 3)) (t_l 460 (a_aload 1 0)))) (t_n 465 (t_n 464 (t_l 461 (a_getf 13 15)) (t_l 464 (a_aload 1 0))) (t_n 468 (t_l 465 (a_getf 13 16)) (t_l 468 (a_iload 1 3))))) (t_n 477 (t_n 475 (t_n 472 (t_l 469 (a_inv false 203 7 (some 12))) (t_l 472 (a_getf 12 21))) (t_n 476 (t_l 475 (a_i (fun x => .long x.toInt64))) (t_l 476 (a_ll (fun x y => .long (x + y)))))) (t_n 481 (t_n 478 (t_l 477 (a_lstore 6 1 1)) (t_l 478 (a_iinc 6 3 1))) (t_n 484 (t_l 481 (a_goto 428)) (t_n 485 (t_l 484 (a_lload 1 1)) (t_l 485 a_lret))))))))))
set_option maxRecDepth 100000 in
theorem k_X13_digest (d : Nat) : ∀ pc, ev_Ok cX13_digest 6 [] RX13 lw_g lw_n lw_q vwCl false (ev_CO mt lw_g lw_n lw_q vwCl d) pc (g_X13_digest pc) := (ok_t_n (ok_t_n (ok_t_n (ok_t_n (ok_t_n (ok_t_n (ok_t_n (ok_t_n (ok_t_l (ok_aload_n dX13_digest_0 rfl)) (ok_t_l (ok_iconst dX13_digest_1 rfl))) (ok_t_n (ok_t_l (ok_putfield dX13_digest_2 (ci := 13) (kf := 0) rfl inGX13 (by decide) tyX13_ok nmX13 rfl w_1559 rfl)) (ok_t_l (ok_ldc2 dX13_digest_5 w_2100)))) (ok_t_n (ok_t_n (ok_t_l (ok_lstore_n dX13_digest_8 rfl)) (ok_t_l (ok_iconst dX13_digest_9 rfl))) (ok_t_n (ok_t_l (ok_istore_n dX13_digest_10 rfl)) (ok_t_l (ok_iload_n dX13_digest_11 rfl))))) (ok_t_n (ok_t_n (ok_t_n (ok_t_l (ok_bipush dX13_digest_12 rfl)) (ok_t_l (ok_icmp_ge dX13_digest_14 rfl))) (ok_t_n (ok_t_l (ok_lload_n dX13_digest_17 rfl)) (ok_t_l (ok_ldc2 dX13_digest_18 w_2101)))) (ok_t_n (ok_t_n (ok_t_l (ok_lmul dX13_digest_21)) (ok_t_l (ok_aload_n dX13_digest_22 rfl))) (ok_t_n (ok_t_l (ok_iload_n dX13_digest_23 rfl)) (ok_t_l (ok_inv (run_V (y := 281) (n := 1) (ci := 13) dX13_digest_24 cz_281 gdG cc_281 ci_281 w_2060 cm_281 cs_281 cd_281 cl_281 rfl rfl))))))) (ok_t_n (ok_t_n (ok_t_n (ok_t_n (ok_t_l (ok_i2l dX13_digest_27)) (ok_t_l (ok_ladd dX13_digest_28))) (ok_t_n (ok_t_l (ok_lstore_n dX13_digest_29 rfl)) (ok_t_l (ok_iinc dX13_digest_30 rfl)))) (ok_t_n (ok_t_n (ok_t_l (ok_goto dX13_digest_33 rfl)) (ok_t_l (ok_iconst dX13_digest_36 rfl))) (ok_t_n (ok_t_l (ok_istore_n dX13_digest_37 rfl)) (ok_t_l (ok_iload_n dX13_digest_38 rfl))))) (ok_t_n (ok_t_n (ok_t_n (ok_t_l (ok_aload_n dX13_digest_39 rfl)) (ok_t_l (ok_getfield dX13_digest_40 (ci := 13) (kf := 1) rfl inGX13 (by decide) w_1561))) (ok_t_n (ok_t_l (ok_icmp_ge dX13_digest_43 rfl)) (ok_t_l (ok_iconst dX13_digest_46 rfl)))) (ok_t_n (ok_t_n (ok_t_l (ok_istore dX13_digest_47)) (ok_t_l (ok_iload dX13_digest_49))) (ok_t_n (ok_t_l (ok_iconst dX13_digest_51 rfl)) (ok_t_n (ok_t_l (ok_icmp_ge dX13_digest_52 rfl)) (ok_t_l (ok_lload_n dX13_digest_55 rfl)))))))) (ok_t_n (ok_t_n (ok_t_n (ok_t_n (ok_t_n (ok_t_l (ok_ldc2 dX13_digest_56 w_2101)) (ok_t_l (ok_lmul dX13_digest_59))) (ok_t_n (ok_t_l (ok_aload_n dX13_digest_60 rfl)) (ok_t_l (ok_iload_n dX13_digest_61 rfl)))) (ok_t_n (ok_t_n (ok_t_l (ok_iload dX13_digest_62)) (ok_t_l (ok_inv (run_V (y := 250) (n := 2) (ci := 13) dX13_digest_64 cz_250 gdG cc_250 ci_250 w_1741 cm_250 cs_250 cd_250 cl_250 rfl rfl)))) (ok_t_n (ok_t_l (ok_i2l dX13_digest_67)) (ok_t_l (ok_ladd dX13_digest_68))))) (ok_t_n (ok_t_n (ok_t_n (ok_t_l (ok_lstore_n dX13_digest_69 rfl)) (ok_t_l (ok_iinc dX13_digest_70 rfl))) (ok_t_n (ok_t_l (ok_goto dX13_digest_73 rfl)) (ok_t_l (ok_iinc dX13_digest_76 rfl)))) (ok_t_n (ok_t_n (ok_t_l (ok_goto dX13_digest_79 rfl)) (ok_t_l (ok_iconst dX13_digest_82 rfl))) (ok_t_n (ok_t_l (ok_istore_n dX13_digest_83 rfl)) (ok_t_l (ok_iload_n dX13_digest_84 rfl)))))) (ok_t_n (ok_t_n (ok_t_n (ok_t_n (ok_t_l (ok_aload_n dX13_digest_85 rfl)) (ok_t_l (ok_getfield dX13_digest_86 (ci := 13) (kf := 2) rfl inGX13 (by decide) w_1563))) (ok_t_n (ok_t_l (ok_icmp_ge dX13_digest_89 rfl)) (ok_t_l (ok_iconst dX13_digest_92 rfl)))) (ok_t_n (ok_t_n (ok_t_l (ok_istore dX13_digest_93)) (ok_t_l (ok_iload dX13_digest_95))) (ok_t_n (ok_t_l (ok_bipush dX13_digest_97 rfl)) (ok_t_l (ok_icmp_ge dX13_digest_99 rfl))))) (ok_t_n (ok_t_n (ok_t_n (ok_t_l (ok_lload_n dX13_digest_102 rfl)) (ok_t_l (ok_ldc2 dX13_digest_103 w_2101))) (ok_t_n (ok_t_l (ok_lmul dX13_digest_106)) (ok_t_l (ok_aload_n dX13_digest_107 rfl)))) (ok_t_n (ok_t_n (ok_t_l (ok_iload_n dX13_digest_108 rfl)) (ok_t_l (ok_iload dX13_digest_109))) (ok_t_n (ok_t_l (ok_inv (run_V (y := 254) (n := 2) (ci := 13) dX13_digest_111 cz_254 gdG cc_254 ci_254 w_1951 cm_254 cs_254 cd_254 cl_254 rfl rfl))) (ok_t_n (ok_t_l (ok_i2l dX13_digest_114)) (ok_t_l (ok_ladd dX13_digest_115))))))))) (ok_t_n (ok_t_n (ok_t_n (ok_t_n (ok_t_n (ok_t_n (ok_t_l (ok_lstore_n dX13_digest_116 rfl)) (ok_t_l (ok_iinc dX13_digest_117 rfl))) (ok_t_n (ok_t_l (ok_goto dX13_digest_120 rfl)) (ok_t_l (ok_iinc dX13_digest_123 rfl)))) (ok_t_n (ok_t_n (ok_t_l (ok_goto dX13_digest_126 rfl)) (ok_t_l (ok_iconst dX13_digest_129 rfl))) (ok_t_n (ok_t_l (ok_istore_n dX13_digest_130 rfl)) (ok_t_l (ok_iload_n dX13_digest_131 rfl))))) (ok_t_n (ok_t_n (ok_t_n (ok_t_l (ok_bipush dX13_digest_132 rfl)) (ok_t_l (ok_icmp_ge dX13_digest_134 rfl))) (ok_t_n (ok_t_l (ok_iconst dX13_digest_137 rfl)) (ok_t_l (ok_istore dX13_digest_138)))) (ok_t_n (ok_t_n (ok_t_l (ok_iload dX13_digest_140)) (ok_t_l (ok_iconst dX13_digest_142 rfl))) (ok_t_n (ok_t_l (ok_icmp_ge dX13_digest_143 rfl)) (ok_t_l (ok_lload_n dX13_digest_146 rfl)))))) (ok_t_n (ok_t_n (ok_t_n (ok_t_n (ok_t_l (ok_ldc2 dX13_digest_147 w_2101)) (ok_t_l (ok_lmul dX13_digest_150))) (ok_t_n (ok_t_l (ok_aload_n dX13_digest_151 rfl)) (ok_t_l (ok_iload_n dX13_digest_152 rfl)))) (ok_t_n (ok_t_n (ok_t_l (ok_iload dX13_digest_153)) (ok_t_l (ok_inv (run_V (y := 256) (n := 2) (ci := 13) dX13_digest_155 cz_256 gdG cc_256 ci_256 w_1959 cm_256 cs_256 cd_256 cl_256 rfl rfl)))) (ok_t_n (ok_t_l (ok_i2l dX13_digest_158)) (ok_t_l (ok_ladd dX13_digest_159))))) (ok_t_n (ok_t_n (ok_t_n (ok_t_l (ok_lstore_n dX13_digest_160 rfl)) (ok_t_l (ok_iinc dX13_digest_161 rfl))) (ok_t_n (ok_t_l (ok_goto dX13_digest_164 rfl)) (ok_t_l (ok_iinc dX13_digest_167 rfl)))) (ok_t_n (ok_t_n (ok_t_l (ok_goto dX13_digest_170 rfl)) (ok_t_l (ok_aload_n dX13_digest_173 rfl))) (ok_t_n (ok_t_l (ok_getfield dX13_digest_174 (ci := 13) (kf := 17) rfl inGX13 (by decide) w_1590)) (ok_t_n (ok_t_l (ok_if_eq dX13_digest_177 rfl)) (ok_t_l (ok_iconst dX13_digest_180 rfl)))))))) (ok_t_n (ok_t_n (ok_t_n (ok_t_n (ok_t_n (ok_t_l (ok_istore_n dX13_digest_181 rfl)) (ok_t_l (ok_iload_n dX13_digest_182 rfl))) (ok_t_n (ok_t_l (ok_iconst dX13_digest_183 rfl)) (ok_t_l (ok_aload_n dX13_digest_184 rfl)))) (ok_t_n (ok_t_n (ok_t_l (ok_getfield dX13_digest_185 (ci := 13) (kf := 18) rfl inGX13 (by decide) w_1591)) (ok_t_l (ok_getfieldN dX13_digest_188 (ci := 12) (kf := 21) rfl inGX12 (by decide) (nst_58)))) (ok_t_n (ok_t_l (ok_imul dX13_digest_191)) (ok_t_l (ok_icmp_ge dX13_digest_192 rfl))))) (ok_t_n (ok_t_n (ok_t_n (ok_t_l (ok_lload_n dX13_digest_195 rfl)) (ok_t_l (ok_ldc2 dX13_digest_196 w_2101))) (ok_t_n (ok_t_l (ok_lmul dX13_digest_199)) (ok_t_l (ok_aload_n dX13_digest_200 rfl)))) (ok_t_n (ok_t_n (ok_t_l (ok_getfield dX13_digest_201 (ci := 13) (kf := 18) rfl inGX13 (by decide) w_1591)) (ok_t_l (ok_getfieldN dX13_digest_204 (ci := 12) (kf := 22) rfl inGX12 (by decide) (nst_59)))) (ok_t_n (ok_t_l (ok_iload_n dX13_digest_207 rfl)) (ok_t_n (ok_t_l (ok_iaload dX13_digest_208)) (ok_t_l (ok_i2l dX13_digest_209))))))) (ok_t_n (ok_t_n (ok_t_n (ok_t_n (ok_t_l (ok_ladd dX13_digest_210)) (ok_t_l (ok_lstore_n dX13_digest_211 rfl))) (ok_t_n (ok_t_l (ok_iinc dX13_digest_212 rfl)) (ok_t_l (ok_goto dX13_digest_215 rfl)))) (ok_t_n (ok_t_n (ok_t_l (ok_iconst dX13_digest_218 rfl)) (ok_t_l (ok_istore_n dX13_digest_219 rfl))) (ok_t_n (ok_t_l (ok_iload_n dX13_digest_220 rfl)) (ok_t_l (ok_aload_n dX13_digest_221 rfl))))) (ok_t_n (ok_t_n (ok_t_n (ok_t_l (ok_getfield dX13_digest_222 (ci := 13) (kf := 18) rfl inGX13 (by decide) w_1591)) (ok_t_l (ok_getfieldN dX13_digest_225 (ci := 12) (kf := 19) rfl inGX12 (by decide) (nst_56)))) (ok_t_n (ok_t_l (ok_icmp_ge dX13_digest_228 rfl)) (ok_t_l (ok_lload_n dX13_digest_231 rfl)))) (ok_t_n (ok_t_n (ok_t_l (ok_ldc2 dX13_digest_232 w_2101)) (ok_t_l (ok_lmul dX13_digest_235))) (ok_t_n (ok_t_l (ok_aload_n dX13_digest_236 rfl)) (ok_t_n (ok_t_l (ok_getfield dX13_digest_237 (ci := 13) (kf := 18) rfl inGX13 (by decide) w_1591)) (ok_t_l (ok_getfieldN dX13_digest_240 (ci := 12) (kf := 23) rfl inGX12 (by decide) (nst_60))))))))))) (ok_t_n (ok_t_n (ok_t_n (ok_t_n (ok_t_n (ok_t_n (ok_t_n (ok_t_l (ok_iload_n dX13_digest_243 rfl)) (ok_t_l (ok_iaload dX13_digest_244))) (ok_t_n (ok_t_l (ok_i2l dX13_digest_245)) (ok_t_l (ok_ladd dX13_digest_246)))) (ok_t_n (ok_t_n (ok_t_l (ok_lstore_n dX13_digest_247 rfl)) (ok_t_l (ok_iinc dX13_digest_248 rfl))) (ok_t_n (ok_t_l (ok_goto dX13_digest_251 rfl)) (ok_t_l (ok_iconst dX13_digest_254 rfl))))) (ok_t_n (ok_t_n (ok_t_n (ok_t_l (ok_istore_n dX13_digest_255 rfl)) (ok_t_l (ok_iload_n dX13_digest_256 rfl))) (ok_t_n (ok_t_l (ok_aload_n dX13_digest_257 rfl)) (ok_t_l (ok_getfield dX13_digest_258 (ci := 13) (kf := 20) rfl inGX13 (by decide) w_1593)))) (ok_t_n (ok_t_n (ok_t_l (ok_icmp_ge dX13_digest_261 rfl)) (ok_t_l (ok_iconst dX13_digest_264 rfl))) (ok_t_n (ok_t_l (ok_istore dX13_digest_265)) (ok_t_l (ok_iload dX13_digest_267)))))) (ok_t_n (ok_t_n (ok_t_n (ok_t_n (ok_t_l (ok_bipush dX13_digest_269 rfl)) (ok_t_l (ok_icmp_ge dX13_digest_271 rfl))) (ok_t_n (ok_t_l (ok_lload_n dX13_digest_274 rfl)) (ok_t_l (ok_ldc2 dX13_digest_275 w_2101)))) (ok_t_n (ok_t_n (ok_t_l (ok_lmul dX13_digest_278)) (ok_t_l (ok_aload_n dX13_digest_279 rfl))) (ok_t_n (ok_t_l (ok_iload_n dX13_digest_280 rfl)) (ok_t_l (ok_iload dX13_digest_281))))) (ok_t_n (ok_t_n (ok_t_n (ok_t_l (ok_inv (run_V (y := 279) (n := 2) (ci := 13) dX13_digest_283 cz_279 gdG cc_279 ci_279 w_2045 cm_279 cs_279 cd_279 cl_279 rfl rfl))) (ok_t_l (ok_i2l dX13_digest_286))) (ok_t_n (ok_t_l (ok_ladd dX13_digest_287)) (ok_t_l (ok_lstore_n dX13_digest_288 rfl)))) (ok_t_n (ok_t_n (ok_t_l (ok_iinc dX13_digest_289 rfl)) (ok_t_l (ok_goto dX13_digest_292 rfl))) (ok_t_n (ok_t_l (ok_lload_n dX13_digest_295 rfl)) (ok_t_n (ok_t_l (ok_ldc2 dX13_digest_296 w_2101)) (ok_t_l (ok_lmul dX13_digest_299)))))))) (ok_t_n (ok_t_n (ok_t_n (ok_t_n (ok_t_n (ok_t_l (ok_aload_n dX13_digest_300 rfl)) (ok_t_l (ok_iload_n dX13_digest_301 rfl))) (ok_t_n (ok_t_l (ok_inv (run_V (y := 270) (n := 1) (ci := 13) dX13_digest_302 cz_270 gdG cc_270 ci_270 w_2014 cm_270 cs_270 cd_270 cl_270 rfl rfl))) (ok_t_l (ok_i2l dX13_digest_305)))) (ok_t_n (ok_t_n (ok_t_l (ok_ladd dX13_digest_306)) (ok_t_l (ok_lstore_n dX13_digest_307 rfl))) (ok_t_n (ok_t_l (ok_iconst dX13_digest_308 rfl)) (ok_t_l (ok_istore dX13_digest_309))))) (ok_t_n (ok_t_n (ok_t_n (ok_t_l (ok_iload dX13_digest_311)) (ok_t_l (ok_bipush dX13_digest_313 rfl))) (ok_t_n (ok_t_l (ok_icmp_ge dX13_digest_315 rfl)) (ok_t_l (ok_iconst dX13_digest_318 rfl)))) (ok_t_n (ok_t_n (ok_t_l (ok_istore dX13_digest_319)) (ok_t_l (ok_iload dX13_digest_321))) (ok_t_n (ok_t_l (ok_iconst dX13_digest_323 rfl)) (ok_t_n (ok_t_l (ok_icmp_ge dX13_digest_324 rfl)) (ok_t_l (ok_lload_n dX13_digest_327 rfl))))))) (ok_t_n (ok_t_n (ok_t_n (ok_t_n (ok_t_l (ok_ldc2 dX13_digest_328 w_2101)) (ok_t_l (ok_lmul dX13_digest_331))) (ok_t_n (ok_t_l (ok_aload_n dX13_digest_332 rfl)) (ok_t_l (ok_iload_n dX13_digest_333 rfl)))) (ok_t_n (ok_t_n (ok_t_l (ok_iload dX13_digest_334)) (ok_t_l (ok_iload dX13_digest_336))) (ok_t_n (ok_t_l (ok_inv (run_V (y := 275) (n := 3) (ci := 13) dX13_digest_338 cz_275 gdG cc_275 ci_275 w_2037 cm_275 cs_275 cd_275 cl_275 rfl rfl))) (ok_t_l (ok_i2l dX13_digest_341))))) (ok_t_n (ok_t_n (ok_t_n (ok_t_l (ok_ladd dX13_digest_342)) (ok_t_l (ok_lstore_n dX13_digest_343 rfl))) (ok_t_n (ok_t_l (ok_iinc dX13_digest_344 rfl)) (ok_t_l (ok_goto dX13_digest_347 rfl)))) (ok_t_n (ok_t_n (ok_t_l (ok_lload_n dX13_digest_350 rfl)) (ok_t_l (ok_ldc2 dX13_digest_351 w_2101))) (ok_t_n (ok_t_l (ok_lmul dX13_digest_354)) (ok_t_n (ok_t_l (ok_aload_n dX13_digest_355 rfl)) (ok_t_l (ok_iload_n dX13_digest_356 rfl))))))))) (ok_t_n (ok_t_n (ok_t_n (ok_t_n (ok_t_n (ok_t_n (ok_t_l (ok_iload dX13_digest_357)) (ok_t_l (ok_inv (run_V (y := 287) (n := 2) (ci := 13) dX13_digest_359 cz_287 gdG cc_287 ci_287 w_2092 cm_287 cs_287 cd_287 cl_287 rfl rfl)))) (ok_t_n (ok_t_l (ok_i2l dX13_digest_362)) (ok_t_l (ok_ladd dX13_digest_363)))) (ok_t_n (ok_t_n (ok_t_l (ok_lstore_n dX13_digest_364 rfl)) (ok_t_l (ok_iinc dX13_digest_365 rfl))) (ok_t_n (ok_t_l (ok_goto dX13_digest_368 rfl)) (ok_t_l (ok_iinc dX13_digest_371 rfl))))) (ok_t_n (ok_t_n (ok_t_n (ok_t_l (ok_goto dX13_digest_374 rfl)) (ok_t_l (ok_aload_n dX13_digest_377 rfl))) (ok_t_n (ok_t_l (ok_getfield dX13_digest_378 (ci := 13) (kf := 17) rfl inGX13 (by decide) w_1590)) (ok_t_l (ok_if_ne dX13_digest_381 rfl)))) (ok_t_n (ok_t_n (ok_t_l (ok_lload_n dX13_digest_384 rfl)) (ok_t_l (ok_lreturn dX13_digest_385))) (ok_t_n (ok_t_l (ok_lload_n dX13_digest_386 rfl)) (ok_t_l (ok_ldc2 dX13_digest_387 w_2101)))))) (ok_t_n (ok_t_n (ok_t_n (ok_t_n (ok_t_l (ok_lmul dX13_digest_390)) (ok_t_l (ok_new dX13_digest_391 (ci := 12) rfl inGX12 tyX12 tyX12_ok w_1764 w_1765 w_105 (by decide +kernel) rfl))) (ok_t_n (ok_t_l (ok_dup dX13_digest_394)) (ok_t_l (ok_aload_n dX13_digest_395 rfl)))) (ok_t_n (ok_t_n (ok_t_l (ok_aload_n dX13_digest_396 rfl)) (ok_t_l (ok_getfield dX13_digest_397 (ci := 13) (kf := 18) rfl inGX13 (by decide) w_1591))) (ok_t_n (ok_t_l (ok_getfieldN dX13_digest_400 (ci := 12) (kf := 0) rfl inGX12 (by decide) (nst_46))) (ok_t_l (ok_aload_n dX13_digest_403 rfl))))) (ok_t_n (ok_t_n (ok_t_n (ok_t_l (ok_getfield dX13_digest_404 (ci := 13) (kf := 18) rfl inGX13 (by decide) w_1591)) (ok_t_l (ok_getfieldN dX13_digest_407 (ci := 12) (kf := 3) rfl inGX12 (by decide) (nst_47)))) (ok_t_n (ok_t_l (ok_bipush dX13_digest_410 rfl)) (ok_t_l (ok_aload_n dX13_digest_412 rfl)))) (ok_t_n (ok_t_n (ok_t_l (ok_getfield dX13_digest_413 (ci := 13) (kf := 16) rfl inGX13 (by decide) w_1589)) (ok_t_l (ok_iconst dX13_digest_416 rfl))) (ok_t_n (ok_t_l (ok_inv (run_I (y := 203) (n := 6) (ci := 12) dX13_digest_417 cz_203 gdG cc_203 ci_203 w_1766 cm_203 rfl rfl cd_203 cl_203))) (ok_t_n (ok_t_l (ok_getfieldN dX13_digest_420 (ci := 12) (kf := 19) rfl inGX12 (by decide) (nst_56))) (ok_t_l (ok_i2l dX13_digest_423)))))))) (ok_t_n (ok_t_n (ok_t_n (ok_t_n (ok_t_n (ok_t_l (ok_ladd dX13_digest_424)) (ok_t_l (ok_lstore_n dX13_digest_425 rfl))) (ok_t_n (ok_t_l (ok_iconst dX13_digest_426 rfl)) (ok_t_l (ok_istore_n dX13_digest_427 rfl)))) (ok_t_n (ok_t_n (ok_t_l (ok_iload_n dX13_digest_428 rfl)) (ok_t_l (ok_aload_n dX13_digest_429 rfl))) (ok_t_n (ok_t_l (ok_getfield dX13_digest_430 (ci := 13) (kf := 1) rfl inGX13 (by decide) w_1561)) (ok_t_l (ok_icmp_ge dX13_digest_433 rfl))))) (ok_t_n (ok_t_n (ok_t_n (ok_t_l (ok_lload_n dX13_digest_436 rfl)) (ok_t_l (ok_ldc2 dX13_digest_437 w_2101))) (ok_t_n (ok_t_l (ok_lmul dX13_digest_440)) (ok_t_l (ok_new dX13_digest_441 (ci := 12) rfl inGX12 tyX12 tyX12_ok w_1764 w_1765 w_105 (by decide +kernel) rfl)))) (ok_t_n (ok_t_n (ok_t_l (ok_dup dX13_digest_444)) (ok_t_l (ok_aload_n dX13_digest_445 rfl))) (ok_t_n (ok_t_l (ok_aload_n dX13_digest_446 rfl)) (ok_t_n (ok_t_l (ok_getfield dX13_digest_447 (ci := 13) (kf := 18) rfl inGX13 (by decide) w_1591)) (ok_t_l (ok_getfieldN dX13_digest_450 (ci := 12) (kf := 0) rfl inGX12 (by decide) (nst_46)))))))) (ok_t_n (ok_t_n (ok_t_n (ok_t_n (ok_t_l (ok_aload_n dX13_digest_453 rfl)) (ok_t_l (ok_getfield dX13_digest_454 (ci := 13) (kf := 18) rfl inGX13 (by decide) w_1591))) (ok_t_n (ok_t_l (ok_getfieldN dX13_digest_457 (ci := 12) (kf := 3) rfl inGX12 (by decide) (nst_47))) (ok_t_l (ok_aload_n dX13_digest_460 rfl)))) (ok_t_n (ok_t_n (ok_t_l (ok_getfield dX13_digest_461 (ci := 13) (kf := 15) rfl inGX13 (by decide) w_1588)) (ok_t_l (ok_aload_n dX13_digest_464 rfl))) (ok_t_n (ok_t_l (ok_getfield dX13_digest_465 (ci := 13) (kf := 16) rfl inGX13 (by decide) w_1589)) (ok_t_l (ok_iload_n dX13_digest_468 rfl))))) (ok_t_n (ok_t_n (ok_t_n (ok_t_l (ok_inv (run_I (y := 203) (n := 6) (ci := 12) dX13_digest_469 cz_203 gdG cc_203 ci_203 w_1766 cm_203 rfl rfl cd_203 cl_203))) (ok_t_l (ok_getfieldN dX13_digest_472 (ci := 12) (kf := 21) rfl inGX12 (by decide) (nst_58)))) (ok_t_n (ok_t_l (ok_i2l dX13_digest_475)) (ok_t_l (ok_ladd dX13_digest_476)))) (ok_t_n (ok_t_n (ok_t_l (ok_lstore_n dX13_digest_477 rfl)) (ok_t_l (ok_iinc dX13_digest_478 rfl))) (ok_t_n (ok_t_l (ok_goto dX13_digest_481 rfl)) (ok_t_n (ok_t_l (ok_lload_n dX13_digest_484 rfl)) (ok_t_l (ok_lreturn dX13_digest_485)))))))))))
