theorem dX4_firstExporter_0 : decode cX4_firstExporter 0 = .ok (.iconst 0, 1) := by decide +kernel
theorem dX4_firstExporter_1 : decode cX4_firstExporter 1 = .ok (.istore_n 3, 1) := by decide +kernel
theorem dX4_firstExporter_2 : decode cX4_firstExporter 2 = .ok (.iload_n 3, 1) := by decide +kernel
theorem dX4_firstExporter_3 : decode cX4_firstExporter 3 = .ok (.aload_n 0, 1) := by decide +kernel
theorem dX4_firstExporter_4 : decode cX4_firstExporter 4 = .ok (.getfield 55, 3) := by decide +kernel
theorem dX4_firstExporter_7 : decode cX4_firstExporter 7 = .ok (.if_icmp .ge 36, 3) := by decide +kernel
theorem dX4_firstExporter_10 : decode cX4_firstExporter 10 = .ok (.iload_n 3, 1) := by decide +kernel
theorem dX4_firstExporter_11 : decode cX4_firstExporter 11 = .ok (.bipush 6, 2) := by decide +kernel
theorem dX4_firstExporter_13 : decode cX4_firstExporter 13 = .ok (.if_icmp .ge 30, 3) := by decide +kernel
theorem dX4_firstExporter_16 : decode cX4_firstExporter 16 = .ok (.aload_n 0, 1) := by decide +kernel
theorem dX4_firstExporter_17 : decode cX4_firstExporter 17 = .ok (.aload_n 0, 1) := by decide +kernel
theorem dX4_firstExporter_18 : decode cX4_firstExporter 18 = .ok (.getfield 36, 3) := by decide +kernel
theorem dX4_firstExporter_21 : decode cX4_firstExporter 21 = .ok (.iload_n 3, 1) := by decide +kernel
theorem dX4_firstExporter_22 : decode cX4_firstExporter 22 = .ok (.iaload, 1) := by decide +kernel
theorem dX4_firstExporter_23 : decode cX4_firstExporter 23 = .ok (.iload_n 2, 1) := by decide +kernel
theorem dX4_firstExporter_24 : decode cX4_firstExporter 24 = .ok (.invokevirtual 82, 3) := by decide +kernel
theorem dX4_firstExporter_27 : decode cX4_firstExporter 27 = .ok (.ifCond .eq 10, 3) := by decide +kernel
theorem dX4_firstExporter_30 : decode cX4_firstExporter 30 = .ok (.aload_n 0, 1) := by decide +kernel
theorem dX4_firstExporter_31 : decode cX4_firstExporter 31 = .ok (.getfield 36, 3) := by decide +kernel
theorem dX4_firstExporter_34 : decode cX4_firstExporter 34 = .ok (.iload_n 3, 1) := by decide +kernel
theorem dX4_firstExporter_35 : decode cX4_firstExporter 35 = .ok (.iaload, 1) := by decide +kernel
theorem dX4_firstExporter_36 : decode cX4_firstExporter 36 = .ok (.ireturn, 1) := by decide +kernel
theorem dX4_firstExporter_37 : decode cX4_firstExporter 37 = .ok (.iinc 3 1, 3) := by decide +kernel
theorem dX4_firstExporter_40 : decode cX4_firstExporter 40 = .ok (.goto (-38), 3) := by decide +kernel
theorem dX4_firstExporter_43 : decode cX4_firstExporter 43 = .ok (.aload_n 0, 1) := by decide +kernel
theorem dX4_firstExporter_44 : decode cX4_firstExporter 44 = .ok (.iload_n 1, 1) := by decide +kernel
theorem dX4_firstExporter_45 : decode cX4_firstExporter 45 = .ok (.invokevirtual 145, 3) := by decide +kernel
theorem dX4_firstExporter_48 : decode cX4_firstExporter 48 = .ok (.istore_n 3, 1) := by decide +kernel
theorem dX4_firstExporter_49 : decode cX4_firstExporter 49 = .ok (.iconst 0, 1) := by decide +kernel
theorem dX4_firstExporter_50 : decode cX4_firstExporter 50 = .ok (.istore 4, 2) := by decide +kernel
theorem dX4_firstExporter_52 : decode cX4_firstExporter 52 = .ok (.iload 4, 2) := by decide +kernel
theorem dX4_firstExporter_54 : decode cX4_firstExporter 54 = .ok (.iload_n 3, 1) := by decide +kernel
theorem dX4_firstExporter_55 : decode cX4_firstExporter 55 = .ok (.if_icmp .ge 53, 3) := by decide +kernel
theorem dX4_firstExporter_58 : decode cX4_firstExporter 58 = .ok (.iload 4, 2) := by decide +kernel
theorem dX4_firstExporter_60 : decode cX4_firstExporter 60 = .ok (.bipush 6, 2) := by decide +kernel
theorem dX4_firstExporter_62 : decode cX4_firstExporter 62 = .ok (.if_icmp .ge 46, 3) := by decide +kernel
theorem dX4_firstExporter_65 : decode cX4_firstExporter 65 = .ok (.aload_n 0, 1) := by decide +kernel
theorem dX4_firstExporter_66 : decode cX4_firstExporter 66 = .ok (.aload_n 0, 1) := by decide +kernel
theorem dX4_firstExporter_67 : decode cX4_firstExporter 67 = .ok (.getfield 42, 3) := by decide +kernel
theorem dX4_firstExporter_70 : decode cX4_firstExporter 70 = .ok (.iload 4, 2) := by decide +kernel
theorem dX4_firstExporter_72 : decode cX4_firstExporter 72 = .ok (.iaload, 1) := by decide +kernel
theorem dX4_firstExporter_73 : decode cX4_firstExporter 73 = .ok (.invokevirtual 139, 3) := by decide +kernel
theorem dX4_firstExporter_76 : decode cX4_firstExporter 76 = .ok (.ifCond .eq 26, 3) := by decide +kernel
theorem dX4_firstExporter_79 : decode cX4_firstExporter 79 = .ok (.aload_n 0, 1) := by decide +kernel
theorem dX4_firstExporter_80 : decode cX4_firstExporter 80 = .ok (.aload_n 0, 1) := by decide +kernel
theorem dX4_firstExporter_81 : decode cX4_firstExporter 81 = .ok (.getfield 42, 3) := by decide +kernel
theorem dX4_firstExporter_84 : decode cX4_firstExporter 84 = .ok (.iload 4, 2) := by decide +kernel
theorem dX4_firstExporter_86 : decode cX4_firstExporter 86 = .ok (.iaload, 1) := by decide +kernel
theorem dX4_firstExporter_87 : decode cX4_firstExporter 87 = .ok (.iload_n 2, 1) := by decide +kernel
theorem dX4_firstExporter_88 : decode cX4_firstExporter 88 = .ok (.invokevirtual 82, 3) := by decide +kernel
theorem dX4_firstExporter_91 : decode cX4_firstExporter 91 = .ok (.ifCond .eq 11, 3) := by decide +kernel
theorem dX4_firstExporter_94 : decode cX4_firstExporter 94 = .ok (.aload_n 0, 1) := by decide +kernel
theorem dX4_firstExporter_95 : decode cX4_firstExporter 95 = .ok (.getfield 42, 3) := by decide +kernel
theorem dX4_firstExporter_98 : decode cX4_firstExporter 98 = .ok (.iload 4, 2) := by decide +kernel
theorem dX4_firstExporter_100 : decode cX4_firstExporter 100 = .ok (.iaload, 1) := by decide +kernel
theorem dX4_firstExporter_101 : decode cX4_firstExporter 101 = .ok (.ireturn, 1) := by decide +kernel
theorem dX4_firstExporter_102 : decode cX4_firstExporter 102 = .ok (.iinc 4 1, 3) := by decide +kernel
theorem dX4_firstExporter_105 : decode cX4_firstExporter 105 = .ok (.goto (-53), 3) := by decide +kernel
theorem dX4_firstExporter_108 : decode cX4_firstExporter 108 = .ok (.iconst (-1), 1) := by decide +kernel
theorem dX4_firstExporter_109 : decode cX4_firstExporter 109 = .ok (.ireturn, 1) := by decide +kernel
def g_X4_firstExporter : Nat → EA := (t_n 52 (t_n 24 (t_n 11 (t_n 3 (t_n 1 (t_l 0 (a_push 1 (.int 0))) (t_n 2 (t_l 1 (a_istore 5 1 3)) (t_l 2 (a_iload 1 3)))) (t_n 7 (t_n 4 (t_l 3 (a_aload 1 0)) (t_l 4 (a_getf 4 14))) (t_n 10 (t_l 7 (a_ic 43 (fun x y => decide (y ≤ x)))) (t_l 10 (a_iload 1 3))))) (t_n 18 (t_n 16 (t_n 13 (t_l 11 (a_push 2 (.int 6))) (t_l 13 (a_ic 43 (fun x y => decide (y ≤ x))))) (t_n 17 (t_l 16 (a_aload 1 0)) (t_l 17 (a_aload 1 0)))) (t_n 22 (t_n 21 (t_l 18 (a_getf 4 8)) (t_l 21 (a_iload 1 3))) (t_n 23 (t_l 22 (a_ild 0)) (t_l 23 (a_iload 1 2)))))) (t_n 37 (t_n 31 (t_n 27 (t_l 24 (a_inv true 51 3 (some 4))) (t_n 30 (t_l 27 (a_if 37 (fun x => decide (x = 0)))) (t_l 30 (a_aload 1 0)))) (t_n 35 (t_n 34 (t_l 31 (a_getf 4 8)) (t_l 34 (a_iload 1 3))) (t_n 36 (t_l 35 (a_ild 0)) (t_l 36 a_iret)))) (t_n 45 (t_n 43 (t_n 40 (t_l 37 (a_iinc 5 3 1)) (t_l 40 (a_goto 2))) (t_n 44 (t_l 43 (a_aload 1 0)) (t_l 44 (a_iload 1 1)))) (t_n 49 (t_n 48 (t_l 45 (a_inv true 65 2 (some 4))) (t_l 48 (a_istore 5 1 3))) (t_n 50 (t_l 49 (a_push 1 (.int 0))) (t_l 50 (a_istore 5 2 4))))))) (t_n 81 (t_n 66 (t_n 58 (t_n 54 (t_l 52 (a_iload 2 4)) (t_n 55 (t_l 54 (a_iload 1 3)) (t_l 55 (a_ic 108 (fun x y => decide (y ≤ x)))))) (t_n 62 (t_n 60 (t_l 58 (a_iload 2 4)) (t_l 60 (a_push 2 (.int 6)))) (t_n 65 (t_l 62 (a_ic 108 (fun x y => decide (y ≤ x)))) (t_l 65 (a_aload 1 0))))) (t_n 73 (t_n 70 (t_n 67 (t_l 66 (a_aload 1 0)) (t_l 67 (a_getf 4 10))) (t_n 72 (t_l 70 (a_iload 2 4)) (t_l 72 (a_ild 0)))) (t_n 79 (t_n 76 (t_l 73 (a_inv true 50 2 (some 4))) (t_l 76 (a_if 102 (fun x => decide (x = 0))))) (t_n 80 (t_l 79 (a_aload 1 0)) (t_l 80 (a_aload 1 0)))))) (t_n 95 (t_n 87 (t_n 84 (t_l 81 (a_getf 4 10)) (t_n 86 (t_l 84 (a_iload 2 4)) (t_l 86 (a_ild 0)))) (t_n 91 (t_n 88 (t_l 87 (a_iload 1 2)) (t_l 88 (a_inv true 51 3 (some 4)))) (t_n 94 (t_l 91 (a_if 102 (fun x => decide (x = 0)))) (t_l 94 (a_aload 1 0))))) (t_n 102 (t_n 100 (t_n 98 (t_l 95 (a_getf 4 10)) (t_l 98 (a_iload 2 4))) (t_n 101 (t_l 100 (a_ild 0)) (t_l 101 a_iret))) (t_n 108 (t_n 105 (t_l 102 (a_iinc 5 4 1)) (t_l 105 (a_goto 52))) (t_n 109 (t_l 108 (a_push 1 (.int (-1)))) (t_l 109 a_iret)))))))
set_option maxRecDepth 100000 in
theorem k_X4_firstExporter (sc : Nat × (Nat → Int32)) (d : Nat) : ∀ pc, ev_Ok cX4_firstExporter 5 [] RX4 lw_g lw_n (lw_q sc) vwCl false (ev_CO mt lw_g lw_n (lw_q sc) vwCl d) pc (g_X4_firstExporter pc) := (ok_t_n (ok_t_n (ok_t_n (ok_t_n (ok_t_n (ok_t_l (ok_iconst dX4_firstExporter_0 rfl)) (ok_t_n (ok_t_l (ok_istore_n dX4_firstExporter_1 rfl)) (ok_t_l (ok_iload_n dX4_firstExporter_2 rfl)))) (ok_t_n (ok_t_n (ok_t_l (ok_aload_n dX4_firstExporter_3 rfl)) (ok_t_l (ok_getfield dX4_firstExporter_4 (ci := 4) (kf := 14) rfl inGX4 (by decide) w_1066))) (ok_t_n (ok_t_l (ok_icmp_ge dX4_firstExporter_7 rfl)) (ok_t_l (ok_iload_n dX4_firstExporter_10 rfl))))) (ok_t_n (ok_t_n (ok_t_n (ok_t_l (ok_bipush dX4_firstExporter_11 rfl)) (ok_t_l (ok_icmp_ge dX4_firstExporter_13 rfl))) (ok_t_n (ok_t_l (ok_aload_n dX4_firstExporter_16 rfl)) (ok_t_l (ok_aload_n dX4_firstExporter_17 rfl)))) (ok_t_n (ok_t_n (ok_t_l (ok_getfield dX4_firstExporter_18 (ci := 4) (kf := 8) rfl inGX4 (by decide) w_1060)) (ok_t_l (ok_iload_n dX4_firstExporter_21 rfl))) (ok_t_n (ok_t_l (ok_iaload dX4_firstExporter_22)) (ok_t_l (ok_iload_n dX4_firstExporter_23 rfl)))))) (ok_t_n (ok_t_n (ok_t_n (ok_t_l (ok_inv (run_V (y := 51) (n := 2) (ci := 4) dX4_firstExporter_24 cz_51 gdG cc_51 ci_51 w_905 cm_51 cs_51 cd_51 cl_51 rfl rfl))) (ok_t_n (ok_t_l (ok_if_eq dX4_firstExporter_27 rfl)) (ok_t_l (ok_aload_n dX4_firstExporter_30 rfl)))) (ok_t_n (ok_t_n (ok_t_l (ok_getfield dX4_firstExporter_31 (ci := 4) (kf := 8) rfl inGX4 (by decide) w_1060)) (ok_t_l (ok_iload_n dX4_firstExporter_34 rfl))) (ok_t_n (ok_t_l (ok_iaload dX4_firstExporter_35)) (ok_t_l (ok_ireturn dX4_firstExporter_36))))) (ok_t_n (ok_t_n (ok_t_n (ok_t_l (ok_iinc dX4_firstExporter_37 rfl)) (ok_t_l (ok_goto dX4_firstExporter_40 rfl))) (ok_t_n (ok_t_l (ok_aload_n dX4_firstExporter_43 rfl)) (ok_t_l (ok_iload_n dX4_firstExporter_44 rfl)))) (ok_t_n (ok_t_n (ok_t_l (ok_inv (run_V (y := 65) (n := 1) (ci := 4) dX4_firstExporter_45 cz_65 gdG cc_65 ci_65 w_697 cm_65 cs_65 cd_65 cl_65 rfl rfl))) (ok_t_l (ok_istore_n dX4_firstExporter_48 rfl))) (ok_t_n (ok_t_l (ok_iconst dX4_firstExporter_49 rfl)) (ok_t_l (ok_istore dX4_firstExporter_50))))))) (ok_t_n (ok_t_n (ok_t_n (ok_t_n (ok_t_l (ok_iload dX4_firstExporter_52)) (ok_t_n (ok_t_l (ok_iload_n dX4_firstExporter_54 rfl)) (ok_t_l (ok_icmp_ge dX4_firstExporter_55 rfl)))) (ok_t_n (ok_t_n (ok_t_l (ok_iload dX4_firstExporter_58)) (ok_t_l (ok_bipush dX4_firstExporter_60 rfl))) (ok_t_n (ok_t_l (ok_icmp_ge dX4_firstExporter_62 rfl)) (ok_t_l (ok_aload_n dX4_firstExporter_65 rfl))))) (ok_t_n (ok_t_n (ok_t_n (ok_t_l (ok_aload_n dX4_firstExporter_66 rfl)) (ok_t_l (ok_getfield dX4_firstExporter_67 (ci := 4) (kf := 10) rfl inGX4 (by decide) w_1062))) (ok_t_n (ok_t_l (ok_iload dX4_firstExporter_70)) (ok_t_l (ok_iaload dX4_firstExporter_72)))) (ok_t_n (ok_t_n (ok_t_l (ok_inv (run_V (y := 50) (n := 1) (ci := 4) dX4_firstExporter_73 cz_50 gdG cc_50 ci_50 w_707 cm_50 cs_50 cd_50 cl_50 rfl rfl))) (ok_t_l (ok_if_eq dX4_firstExporter_76 rfl))) (ok_t_n (ok_t_l (ok_aload_n dX4_firstExporter_79 rfl)) (ok_t_l (ok_aload_n dX4_firstExporter_80 rfl)))))) (ok_t_n (ok_t_n (ok_t_n (ok_t_l (ok_getfield dX4_firstExporter_81 (ci := 4) (kf := 10) rfl inGX4 (by decide) w_1062)) (ok_t_n (ok_t_l (ok_iload dX4_firstExporter_84)) (ok_t_l (ok_iaload dX4_firstExporter_86)))) (ok_t_n (ok_t_n (ok_t_l (ok_iload_n dX4_firstExporter_87 rfl)) (ok_t_l (ok_inv (run_V (y := 51) (n := 2) (ci := 4) dX4_firstExporter_88 cz_51 gdG cc_51 ci_51 w_905 cm_51 cs_51 cd_51 cl_51 rfl rfl)))) (ok_t_n (ok_t_l (ok_if_eq dX4_firstExporter_91 rfl)) (ok_t_l (ok_aload_n dX4_firstExporter_94 rfl))))) (ok_t_n (ok_t_n (ok_t_n (ok_t_l (ok_getfield dX4_firstExporter_95 (ci := 4) (kf := 10) rfl inGX4 (by decide) w_1062)) (ok_t_l (ok_iload dX4_firstExporter_98))) (ok_t_n (ok_t_l (ok_iaload dX4_firstExporter_100)) (ok_t_l (ok_ireturn dX4_firstExporter_101)))) (ok_t_n (ok_t_n (ok_t_l (ok_iinc dX4_firstExporter_102 rfl)) (ok_t_l (ok_goto dX4_firstExporter_105 rfl))) (ok_t_n (ok_t_l (ok_iconst dX4_firstExporter_108 rfl)) (ok_t_l (ok_ireturn dX4_firstExporter_109))))))))
theorem dX5_init_0 : decode cX5_init 0 = .ok (.aload_n 0, 1) := by decide +kernel
theorem dX5_init_1 : decode cX5_init 1 = .ok (.invokespecial 3, 3) := by decide +kernel
theorem dX5_init_4 : decode cX5_init 4 = .ok (.aload_n 0, 1) := by decide +kernel
theorem dX5_init_5 : decode cX5_init 5 = .ok (.new 9, 3) := by decide +kernel
theorem dX5_init_8 : decode cX5_init 8 = .ok (.dup, 1) := by decide +kernel
theorem dX5_init_9 : decode cX5_init 9 = .ok (.invokespecial 11, 3) := by decide +kernel
theorem dX5_init_12 : decode cX5_init 12 = .ok (.putfield 12, 3) := by decide +kernel
theorem dX5_init_15 : decode cX5_init 15 = .ok (.aload_n 0, 1) := by decide +kernel
theorem dX5_init_16 : decode cX5_init 16 = .ok (.iconst 0, 1) := by decide +kernel
theorem dX5_init_17 : decode cX5_init 17 = .ok (.putfield 18, 3) := by decide +kernel
theorem dX5_init_20 : decode cX5_init 20 = .ok (.aload_n 0, 1) := by decide +kernel
theorem dX5_init_21 : decode cX5_init 21 = .ok (.iconst 0, 1) := by decide +kernel
theorem dX5_init_22 : decode cX5_init 22 = .ok (.putfield 22, 3) := by decide +kernel
theorem dX5_init_25 : decode cX5_init 25 = .ok (.aload_n 0, 1) := by decide +kernel
theorem dX5_init_26 : decode cX5_init 26 = .ok (.iconst 0, 1) := by decide +kernel
theorem dX5_init_27 : decode cX5_init 27 = .ok (.putfield 25, 3) := by decide +kernel
theorem dX5_init_30 : decode cX5_init 30 = .ok (.aload_n 0, 1) := by decide +kernel
theorem dX5_init_31 : decode cX5_init 31 = .ok (.aload_n 2, 1) := by decide +kernel
theorem dX5_init_32 : decode cX5_init 32 = .ok (.putfield 29, 3) := by decide +kernel
theorem dX5_init_35 : decode cX5_init 35 = .ok (.aload_n 0, 1) := by decide +kernel
theorem dX5_init_36 : decode cX5_init 36 = .ok (.new 33, 3) := by decide +kernel
theorem dX5_init_39 : decode cX5_init 39 = .ok (.dup, 1) := by decide +kernel
theorem dX5_init_40 : decode cX5_init 40 = .ok (.aload_n 1, 1) := by decide +kernel
theorem dX5_init_41 : decode cX5_init 41 = .ok (.aload_n 3, 1) := by decide +kernel
theorem dX5_init_42 : decode cX5_init 42 = .ok (.invokespecial 35, 3) := by decide +kernel
theorem dX5_init_45 : decode cX5_init 45 = .ok (.putfield 38, 3) := by decide +kernel
theorem dX5_init_48 : decode cX5_init 48 = .ok (.aload_n 0, 1) := by decide +kernel
theorem dX5_init_49 : decode cX5_init 49 = .ok (.new 42, 3) := by decide +kernel
theorem dX5_init_52 : decode cX5_init 52 = .ok (.dup, 1) := by decide +kernel
theorem dX5_init_53 : decode cX5_init 53 = .ok (.aload_n 1, 1) := by decide +kernel
theorem dX5_init_54 : decode cX5_init 54 = .ok (.aload_n 0, 1) := by decide +kernel
theorem dX5_init_55 : decode cX5_init 55 = .ok (.getfield 38, 3) := by decide +kernel
theorem dX5_init_58 : decode cX5_init 58 = .ok (.invokespecial 44, 3) := by decide +kernel
theorem dX5_init_61 : decode cX5_init 61 = .ok (.putfield 47, 3) := by decide +kernel
theorem dX5_init_64 : decode cX5_init 64 = .ok (.aload_n 0, 1) := by decide +kernel
theorem dX5_init_65 : decode cX5_init 65 = .ok (.new 51, 3) := by decide +kernel
theorem dX5_init_68 : decode cX5_init 68 = .ok (.dup, 1) := by decide +kernel
theorem dX5_init_69 : decode cX5_init 69 = .ok (.aload_n 2, 1) := by decide +kernel
theorem dX5_init_70 : decode cX5_init 70 = .ok (.aload_n 0, 1) := by decide +kernel
theorem dX5_init_71 : decode cX5_init 71 = .ok (.getfield 38, 3) := by decide +kernel
theorem dX5_init_74 : decode cX5_init 74 = .ok (.aload_n 0, 1) := by decide +kernel
theorem dX5_init_75 : decode cX5_init 75 = .ok (.getfield 47, 3) := by decide +kernel
theorem dX5_init_78 : decode cX5_init 78 = .ok (.invokespecial 53, 3) := by decide +kernel
theorem dX5_init_81 : decode cX5_init 81 = .ok (.putfield 56, 3) := by decide +kernel
theorem dX5_init_84 : decode cX5_init 84 = .ok (.aload_n 0, 1) := by decide +kernel
theorem dX5_init_85 : decode cX5_init 85 = .ok (.new 60, 3) := by decide +kernel
theorem dX5_init_88 : decode cX5_init 88 = .ok (.dup, 1) := by decide +kernel
theorem dX5_init_89 : decode cX5_init 89 = .ok (.aload_n 2, 1) := by decide +kernel
theorem dX5_init_90 : decode cX5_init 90 = .ok (.aload_n 0, 1) := by decide +kernel
theorem dX5_init_91 : decode cX5_init 91 = .ok (.getfield 38, 3) := by decide +kernel
theorem dX5_init_94 : decode cX5_init 94 = .ok (.aload_n 0, 1) := by decide +kernel
theorem dX5_init_95 : decode cX5_init 95 = .ok (.getfield 47, 3) := by decide +kernel
theorem dX5_init_98 : decode cX5_init 98 = .ok (.aload_n 0, 1) := by decide +kernel
theorem dX5_init_99 : decode cX5_init 99 = .ok (.getfield 56, 3) := by decide +kernel
theorem dX5_init_102 : decode cX5_init 102 = .ok (.invokespecial 62, 3) := by decide +kernel
theorem dX5_init_105 : decode cX5_init 105 = .ok (.putfield 65, 3) := by decide +kernel
theorem dX5_init_108 : decode cX5_init 108 = .ok (.return_, 1) := by decide +kernel
def g_X5_init : Nat → EA := (t_n 52 (t_n 26 (t_n 15 (t_n 5 (t_n 1 (t_l 0 (a_aload 1 0)) (t_n 4 (t_l 1 a_objI) (t_l 4 (a_aload 1 0)))) (t_n 9 (t_n 8 (t_l 5 (a_new 0 2 [.null, .int 0])) (t_l 8 a_dup)) (t_n 12 (t_l 9 (a_inv false 0 1 (some 0))) (t_l 12 (a_putf 9 5 5))))) (t_n 20 (t_n 16 (t_l 15 (a_aload 1 0)) (t_n 17 (t_l 16 (a_push 1 (.int 0))) (t_l 17 (a_putf 1 5 6)))) (t_n 22 (t_n 21 (t_l 20 (a_aload 1 0)) (t_l 21 (a_push 1 (.int 0)))) (t_n 25 (t_l 22 (a_putf 1 5 7)) (t_l 25 (a_aload 1 0)))))) (t_n 39 (t_n 31 (t_n 27 (t_l 26 (a_push 1 (.int 0))) (t_n 30 (t_l 27 (a_putf 0 5 8)) (t_l 30 (a_aload 1 0)))) (t_n 35 (t_n 32 (t_l 31 (a_aload 1 2)) (t_l 32 (a_putf 9 5 0))) (t_n 36 (t_l 35 (a_aload 1 0)) (t_l 36 (a_new 10 7 [.null, .null, .null, .int 0, .int 0, .int 0, .int 0]))))) (t_n 42 (t_n 40 (t_l 39 a_dup) (t_n 41 (t_l 40 (a_aload 1 1)) (t_l 41 (a_aload 1 3)))) (t_n 48 (t_n 45 (t_l 42 (a_inv false 148 3 (some 10))) (t_l 45 (a_putf 9 5 1))) (t_n 49 (t_l 48 (a_aload 1 0)) (t_l 49 (a_new 9 10 [.null, .null, .null, .null, .null, .null, .null, .null, .int 0, .int 0]))))))) (t_n 78 (t_n 65 (t_n 55 (t_n 53 (t_l 52 a_dup) (t_n 54 (t_l 53 (a_aload 1 1)) (t_l 54 (a_aload 1 0)))) (t_n 61 (t_n 58 (t_l 55 (a_getf 5 1)) (t_l 58 (a_inv false 135 3 (some 9)))) (t_n 64 (t_l 61 (a_putf 9 5 2)) (t_l 64 (a_aload 1 0))))) (t_n 70 (t_n 68 (t_l 65 (a_new 7 9 [.null, .null, .null, .null, .int 0, .int 0, .int 0, .int 0, .null])) (t_n 69 (t_l 68 a_dup) (t_l 69 (a_aload 1 2)))) (t_n 74 (t_n 71 (t_l 70 (a_aload 1 0)) (t_l 71 (a_getf 5 1))) (t_n 75 (t_l 74 (a_aload 1 0)) (t_l 75 (a_getf 5 2)))))) (t_n 91 (t_n 85 (t_n 81 (t_l 78 (a_inv false 104 4 (some 7))) (t_n 84 (t_l 81 (a_putf 9 5 3)) (t_l 84 (a_aload 1 0)))) (t_n 89 (t_n 88 (t_l 85 (a_new 3 13 [.null, .null, .null, .null, .null, .int 0, .null, .null, .null, .null, .null, .int 0, .int 0])) (t_l 88 a_dup)) (t_n 90 (t_l 89 (a_aload 1 2)) (t_l 90 (a_aload 1 0))))) (t_n 99 (t_n 95 (t_n 94 (t_l 91 (a_getf 5 1)) (t_l 94 (a_aload 1 0))) (t_n 98 (t_l 95 (a_getf 5 2)) (t_l 98 (a_aload 1 0)))) (t_n 105 (t_n 102 (t_l 99 (a_getf 5 3)) (t_l 102 (a_inv false 20 5 (some 3)))) (t_n 108 (t_l 105 (a_putf 9 5 4)) (t_l 108 a_vret)))))))
set_option maxRecDepth 100000 in
theorem k_X5_init (sc : Nat × (Nat → Int32)) (d : Nat) : ∀ pc, ev_Ok cX5_init 4 [] RX5 lw_g lw_n (lw_q sc) vwCl true (ev_CO mt lw_g lw_n (lw_q sc) vwCl d) pc (g_X5_init pc) := (ok_t_n (ok_t_n (ok_t_n (ok_t_n (ok_t_n (ok_t_l (ok_aload_n dX5_init_0 rfl)) (ok_t_n (ok_t_l (ok_objinit dX5_init_1 w_1115 w_94 w_obj ev_CO.small)) (ok_t_l (ok_aload_n dX5_init_4 rfl)))) (ok_t_n (ok_t_n (ok_t_l (ok_new dX5_init_5 (ci := 0) rfl inGX0 tyX0 tyX0_ok w_1116 w_1117 w_46 (by decide +kernel) rfl)) (ok_t_l (ok_dup dX5_init_8))) (ok_t_n (ok_t_l (ok_inv (run_IN (y := 0) (n := 0) (ci := 0) dX5_init_9 cz_0 gdG cc_0 ci_0 nst_21 cm_0 rfl rfl cd_0 cl_0))) (ok_t_l (ok_putfieldF dX5_init_12 (ci := 5) (kf := 5) rfl inGX5 (by decide) tyX5_ok nmX5 rfl w_1282 rfl rfl rfl))))) (ok_t_n (ok_t_n (ok_t_l (ok_aload_n dX5_init_15 rfl)) (ok_t_n (ok_t_l (ok_iconst dX5_init_16 rfl)) (ok_t_l (ok_putfield dX5_init_17 (ci := 5) (kf := 6) rfl inGX5 (by decide) tyX5_ok nmX5 rfl w_1284 rfl)))) (ok_t_n (ok_t_n (ok_t_l (ok_aload_n dX5_init_20 rfl)) (ok_t_l (ok_iconst dX5_init_21 rfl))) (ok_t_n (ok_t_l (ok_putfield dX5_init_22 (ci := 5) (kf := 7) rfl inGX5 (by decide) tyX5_ok nmX5 rfl w_1285 rfl)) (ok_t_l (ok_aload_n dX5_init_25 rfl)))))) (ok_t_n (ok_t_n (ok_t_n (ok_t_l (ok_iconst dX5_init_26 rfl)) (ok_t_n (ok_t_l (ok_putfield dX5_init_27 (ci := 5) (kf := 8) rfl inGX5 (by decide) tyX5_ok nmX5 rfl w_1286 rfl)) (ok_t_l (ok_aload_n dX5_init_30 rfl)))) (ok_t_n (ok_t_n (ok_t_l (ok_aload_n dX5_init_31 rfl)) (ok_t_l (ok_putfieldF dX5_init_32 (ci := 5) (kf := 0) rfl inGX5 (by decide) tyX5_ok nmX5 rfl w_1270 rfl rfl rfl))) (ok_t_n (ok_t_l (ok_aload_n dX5_init_35 rfl)) (ok_t_l (ok_new dX5_init_36 (ci := 10) rfl inGX10 tyX10 tyX10_ok w_1129 w_285 w_47 (by decide +kernel) rfl))))) (ok_t_n (ok_t_n (ok_t_l (ok_dup dX5_init_39)) (ok_t_n (ok_t_l (ok_aload_n dX5_init_40 rfl)) (ok_t_l (ok_aload_n dX5_init_41 rfl)))) (ok_t_n (ok_t_n (ok_t_l (ok_inv (run_I (y := 148) (n := 2) (ci := 10) dX5_init_42 cz_148 gdG cc_148 ci_148 w_1130 cm_148 rfl rfl cd_148 cl_148))) (ok_t_l (ok_putfieldF dX5_init_45 (ci := 5) (kf := 1) rfl inGX5 (by decide) tyX5_ok nmX5 rfl w_1271 rfl rfl rfl))) (ok_t_n (ok_t_l (ok_aload_n dX5_init_48 rfl)) (ok_t_l (ok_new dX5_init_49 (ci := 9) rfl inGX9 tyX9 tyX9_ok w_1156 w_325 w_48 (by decide +kernel) rfl))))))) (ok_t_n (ok_t_n (ok_t_n (ok_t_n (ok_t_l (ok_dup dX5_init_52)) (ok_t_n (ok_t_l (ok_aload_n dX5_init_53 rfl)) (ok_t_l (ok_aload_n dX5_init_54 rfl)))) (ok_t_n (ok_t_n (ok_t_l (ok_getfield dX5_init_55 (ci := 5) (kf := 1) rfl inGX5 (by decide) w_1271)) (ok_t_l (ok_inv (run_I (y := 135) (n := 2) (ci := 9) dX5_init_58 cz_135 gdG cc_135 ci_135 w_1157 cm_135 rfl rfl cd_135 cl_135)))) (ok_t_n (ok_t_l (ok_putfieldF dX5_init_61 (ci := 5) (kf := 2) rfl inGX5 (by decide) tyX5_ok nmX5 rfl w_1273 rfl rfl rfl)) (ok_t_l (ok_aload_n dX5_init_64 rfl))))) (ok_t_n (ok_t_n (ok_t_l (ok_new dX5_init_65 (ci := 7) rfl inGX7 tyX7 tyX7_ok w_1192 w_375 w_49 (by decide +kernel) rfl)) (ok_t_n (ok_t_l (ok_dup dX5_init_68)) (ok_t_l (ok_aload_n dX5_init_69 rfl)))) (ok_t_n (ok_t_n (ok_t_l (ok_aload_n dX5_init_70 rfl)) (ok_t_l (ok_getfield dX5_init_71 (ci := 5) (kf := 1) rfl inGX5 (by decide) w_1271))) (ok_t_n (ok_t_l (ok_aload_n dX5_init_74 rfl)) (ok_t_l (ok_getfield dX5_init_75 (ci := 5) (kf := 2) rfl inGX5 (by decide) w_1273)))))) (ok_t_n (ok_t_n (ok_t_n (ok_t_l (ok_inv (run_I (y := 104) (n := 3) (ci := 7) dX5_init_78 cz_104 gdG cc_104 ci_104 w_1193 cm_104 rfl rfl cd_104 cl_104))) (ok_t_n (ok_t_l (ok_putfieldF dX5_init_81 (ci := 5) (kf := 3) rfl inGX5 (by decide) tyX5_ok nmX5 rfl w_1276 rfl rfl rfl)) (ok_t_l (ok_aload_n dX5_init_84 rfl)))) (ok_t_n (ok_t_n (ok_t_l (ok_new dX5_init_85 (ci := 3) rfl inGX3 tyX3 tyX3_ok w_1225 w_456 w_50 (by decide +kernel) rfl)) (ok_t_l (ok_dup dX5_init_88))) (ok_t_n (ok_t_l (ok_aload_n dX5_init_89 rfl)) (ok_t_l (ok_aload_n dX5_init_90 rfl))))) (ok_t_n (ok_t_n (ok_t_n (ok_t_l (ok_getfield dX5_init_91 (ci := 5) (kf := 1) rfl inGX5 (by decide) w_1271)) (ok_t_l (ok_aload_n dX5_init_94 rfl))) (ok_t_n (ok_t_l (ok_getfield dX5_init_95 (ci := 5) (kf := 2) rfl inGX5 (by decide) w_1273)) (ok_t_l (ok_aload_n dX5_init_98 rfl)))) (ok_t_n (ok_t_n (ok_t_l (ok_getfield dX5_init_99 (ci := 5) (kf := 3) rfl inGX5 (by decide) w_1276)) (ok_t_l (ok_inv (run_I (y := 20) (n := 4) (ci := 3) dX5_init_102 cz_20 gdG cc_20 ci_20 w_1226 cm_20 rfl rfl cd_20 cl_20)))) (ok_t_n (ok_t_l (ok_putfieldF dX5_init_105 (ci := 5) (kf := 4) rfl inGX5 (by decide) tyX5_ok nmX5 rfl w_1279 rfl rfl rfl)) (ok_t_l (ok_vreturn dX5_init_108))))))))
theorem dX5_isDone_0 : decode cX5_isDone 0 = .ok (.aload_n 0, 1) := by decide +kernel
theorem dX5_isDone_1 : decode cX5_isDone 1 = .ok (.getfield 18, 3) := by decide +kernel
theorem dX5_isDone_4 : decode cX5_isDone 4 = .ok (.ireturn, 1) := by decide +kernel
def g_X5_isDone : Nat → EA := (t_n 1 (t_l 0 (a_aload 1 0)) (t_n 4 (t_l 1 (a_getf 5 6)) (t_l 4 a_iret)))
set_option maxRecDepth 100000 in
theorem k_X5_isDone (sc : Nat × (Nat → Int32)) (d : Nat) : ∀ pc, ev_Ok cX5_isDone 1 [] RX5 lw_g lw_n (lw_q sc) vwCl false (ev_CO mt lw_g lw_n (lw_q sc) vwCl d) pc (g_X5_isDone pc) := (ok_t_n (ok_t_l (ok_aload_n dX5_isDone_0 rfl)) (ok_t_n (ok_t_l (ok_getfield dX5_isDone_1 (ci := 5) (kf := 6) rfl inGX5 (by decide) w_1284)) (ok_t_l (ok_ireturn dX5_isDone_4))))
theorem dX5_isShared_0 : decode cX5_isShared 0 = .ok (.aload_n 0, 1) := by decide +kernel
theorem dX5_isShared_1 : decode cX5_isShared 1 = .ok (.getfield 22, 3) := by decide +kernel
theorem dX5_isShared_4 : decode cX5_isShared 4 = .ok (.ireturn, 1) := by decide +kernel
def g_X5_isShared : Nat → EA := (t_n 1 (t_l 0 (a_aload 1 0)) (t_n 4 (t_l 1 (a_getf 5 7)) (t_l 4 a_iret)))
set_option maxRecDepth 100000 in
theorem k_X5_isShared (sc : Nat × (Nat → Int32)) (d : Nat) : ∀ pc, ev_Ok cX5_isShared 1 [] RX5 lw_g lw_n (lw_q sc) vwCl false (ev_CO mt lw_g lw_n (lw_q sc) vwCl d) pc (g_X5_isShared pc) := (ok_t_n (ok_t_l (ok_aload_n dX5_isShared_0 rfl)) (ok_t_n (ok_t_l (ok_getfield dX5_isShared_1 (ci := 5) (kf := 7) rfl inGX5 (by decide) w_1285)) (ok_t_l (ok_ireturn dX5_isShared_4))))
theorem dX5_entry_0 : decode cX5_entry 0 = .ok (.aload_n 0, 1) := by decide +kernel
theorem dX5_entry_1 : decode cX5_entry 1 = .ok (.getfield 25, 3) := by decide +kernel
theorem dX5_entry_4 : decode cX5_entry 4 = .ok (.ireturn, 1) := by decide +kernel
def g_X5_entry : Nat → EA := (t_n 1 (t_l 0 (a_aload 1 0)) (t_n 4 (t_l 1 (a_getf 5 8)) (t_l 4 a_iret)))
set_option maxRecDepth 100000 in
theorem k_X5_entry (sc : Nat × (Nat → Int32)) (d : Nat) : ∀ pc, ev_Ok cX5_entry 1 [] RX5 lw_g lw_n (lw_q sc) vwCl false (ev_CO mt lw_g lw_n (lw_q sc) vwCl d) pc (g_X5_entry pc) := (ok_t_n (ok_t_l (ok_aload_n dX5_entry_0 rfl)) (ok_t_n (ok_t_l (ok_getfield dX5_entry_1 (ci := 5) (kf := 8) rfl inGX5 (by decide) w_1286)) (ok_t_l (ok_ireturn dX5_entry_4))))
theorem dX5_run_0 : decode cX5_run 0 = .ok (.aload_n 0, 1) := by decide +kernel
theorem dX5_run_1 : decode cX5_run 1 = .ok (.iload_n 1, 1) := by decide +kernel
theorem dX5_run_2 : decode cX5_run 2 = .ok (.putfield 25, 3) := by decide +kernel
theorem dX5_run_5 : decode cX5_run 5 = .ok (.aload_n 0, 1) := by decide +kernel
theorem dX5_run_6 : decode cX5_run 6 = .ok (.iload_n 2, 1) := by decide +kernel
theorem dX5_run_7 : decode cX5_run 7 = .ok (.putfield 22, 3) := by decide +kernel
theorem dX5_run_10 : decode cX5_run 10 = .ok (.aload_n 0, 1) := by decide +kernel
theorem dX5_run_11 : decode cX5_run 11 = .ok (.iconst 1, 1) := by decide +kernel
theorem dX5_run_12 : decode cX5_run 12 = .ok (.putfield 18, 3) := by decide +kernel
theorem dX5_run_15 : decode cX5_run 15 = .ok (.aload_n 0, 1) := by decide +kernel
theorem dX5_run_16 : decode cX5_run 16 = .ok (.getfield 38, 3) := by decide +kernel
theorem dX5_run_19 : decode cX5_run 19 = .ok (.iload_n 1, 1) := by decide +kernel
theorem dX5_run_20 : decode cX5_run 20 = .ok (.iload 5, 2) := by decide +kernel
theorem dX5_run_22 : decode cX5_run 22 = .ok (.invokevirtual 69, 3) := by decide +kernel
theorem dX5_run_25 : decode cX5_run 25 = .ok (.aload_n 0, 1) := by decide +kernel
theorem dX5_run_26 : decode cX5_run 26 = .ok (.getfield 47, 3) := by decide +kernel
theorem dX5_run_29 : decode cX5_run 29 = .ok (.invokevirtual 73, 3) := by decide +kernel
theorem dX5_run_32 : decode cX5_run 32 = .ok (.aload_n 0, 1) := by decide +kernel
theorem dX5_run_33 : decode cX5_run 33 = .ok (.getfield 56, 3) := by decide +kernel
theorem dX5_run_36 : decode cX5_run 36 = .ok (.iload_n 1, 1) := by decide +kernel
theorem dX5_run_37 : decode cX5_run 37 = .ok (.iload_n 2, 1) := by decide +kernel
theorem dX5_run_38 : decode cX5_run 38 = .ok (.invokevirtual 76, 3) := by decide +kernel
theorem dX5_run_41 : decode cX5_run 41 = .ok (.aload_n 0, 1) := by decide +kernel
theorem dX5_run_42 : decode cX5_run 42 = .ok (.getfield 65, 3) := by decide +kernel
theorem dX5_run_45 : decode cX5_run 45 = .ok (.iload_n 3, 1) := by decide +kernel
theorem dX5_run_46 : decode cX5_run 46 = .ok (.invokevirtual 80, 3) := by decide +kernel
theorem dX5_run_49 : decode cX5_run 49 = .ok (.aload_n 0, 1) := by decide +kernel
theorem dX5_run_50 : decode cX5_run 50 = .ok (.iload 4, 2) := by decide +kernel
theorem dX5_run_52 : decode cX5_run 52 = .ok (.invokevirtual 84, 3) := by decide +kernel
theorem dX5_run_55 : decode cX5_run 55 = .ok (.return_, 1) := by decide +kernel
def g_X5_run : Nat → EA := (t_n 26 (t_n 11 (t_n 5 (t_n 1 (t_l 0 (a_aload 1 0)) (t_n 2 (t_l 1 (a_iload 1 1)) (t_l 2 (a_putf 0 5 8)))) (t_n 7 (t_n 6 (t_l 5 (a_aload 1 0)) (t_l 6 (a_iload 1 2))) (t_n 10 (t_l 7 (a_putf 1 5 7)) (t_l 10 (a_aload 1 0))))) (t_n 19 (t_n 15 (t_n 12 (t_l 11 (a_push 1 (.int 1))) (t_l 12 (a_putf 1 5 6))) (t_n 16 (t_l 15 (a_aload 1 0)) (t_l 16 (a_getf 5 1)))) (t_n 22 (t_n 20 (t_l 19 (a_iload 1 1)) (t_l 20 (a_iload 2 5))) (t_n 25 (t_l 22 (a_inv true 153 3 (some 10))) (t_l 25 (a_aload 1 0)))))) (t_n 41 (t_n 33 (t_n 29 (t_l 26 (a_getf 5 2)) (t_n 32 (t_l 29 (a_inv true 137 1 (some 9))) (t_l 32 (a_aload 1 0)))) (t_n 37 (t_n 36 (t_l 33 (a_getf 5 3)) (t_l 36 (a_iload 1 1))) (t_n 38 (t_l 37 (a_iload 1 2)) (t_l 38 (a_inv true 111 3 (some 7)))))) (t_n 49 (t_n 45 (t_n 42 (t_l 41 (a_aload 1 0)) (t_l 42 (a_getf 5 4))) (t_n 46 (t_l 45 (a_iload 1 3)) (t_l 46 (a_inv true 31 2 (some 3))))) (t_n 52 (t_n 50 (t_l 49 (a_aload 1 0)) (t_l 50 (a_iload 2 4))) (t_n 55 (t_l 52 (a_inv true 81 2 (some 5))) (t_l 55 a_vret))))))
set_option maxRecDepth 100000 in
theorem k_X5_run (sc : Nat × (Nat → Int32)) (d : Nat) : ∀ pc, ev_Ok cX5_run 6 [] RX5 lw_g lw_n (lw_q sc) vwCl false (ev_CO mt lw_g lw_n (lw_q sc) vwCl d) pc (g_X5_run pc) := (ok_t_n (ok_t_n (ok_t_n (ok_t_n (ok_t_l (ok_aload_n dX5_run_0 rfl)) (ok_t_n (ok_t_l (ok_iload_n dX5_run_1 rfl)) (ok_t_l (ok_putfield dX5_run_2 (ci := 5) (kf := 8) rfl inGX5 (by decide) tyX5_ok nmX5 rfl w_1286 rfl)))) (ok_t_n (ok_t_n (ok_t_l (ok_aload_n dX5_run_5 rfl)) (ok_t_l (ok_iload_n dX5_run_6 rfl))) (ok_t_n (ok_t_l (ok_putfield dX5_run_7 (ci := 5) (kf := 7) rfl inGX5 (by decide) tyX5_ok nmX5 rfl w_1285 rfl)) (ok_t_l (ok_aload_n dX5_run_10 rfl))))) (ok_t_n (ok_t_n (ok_t_n (ok_t_l (ok_iconst dX5_run_11 rfl)) (ok_t_l (ok_putfield dX5_run_12 (ci := 5) (kf := 6) rfl inGX5 (by decide) tyX5_ok nmX5 rfl w_1284 rfl))) (ok_t_n (ok_t_l (ok_aload_n dX5_run_15 rfl)) (ok_t_l (ok_getfield dX5_run_16 (ci := 5) (kf := 1) rfl inGX5 (by decide) w_1271)))) (ok_t_n (ok_t_n (ok_t_l (ok_iload_n dX5_run_19 rfl)) (ok_t_l (ok_iload dX5_run_20))) (ok_t_n (ok_t_l (ok_inv (run_V (y := 153) (n := 2) (ci := 10) dX5_run_22 cz_153 gdG cc_153 ci_153 w_266 cm_153 cs_153 cd_153 cl_153 rfl rfl))) (ok_t_l (ok_aload_n dX5_run_25 rfl)))))) (ok_t_n (ok_t_n (ok_t_n (ok_t_l (ok_getfield dX5_run_26 (ci := 5) (kf := 2) rfl inGX5 (by decide) w_1273)) (ok_t_n (ok_t_l (ok_inv (run_V (y := 137) (n := 0) (ci := 9) dX5_run_29 cz_137 gdG cc_137 ci_137 w_318 cm_137 cs_137 cd_137 cl_137 rfl rfl))) (ok_t_l (ok_aload_n dX5_run_32 rfl)))) (ok_t_n (ok_t_n (ok_t_l (ok_getfield dX5_run_33 (ci := 5) (kf := 3) rfl inGX5 (by decide) w_1276)) (ok_t_l (ok_iload_n dX5_run_36 rfl))) (ok_t_n (ok_t_l (ok_iload_n dX5_run_37 rfl)) (ok_t_l (ok_inv (run_V (y := 111) (n := 2) (ci := 7) dX5_run_38 cz_111 gdG cc_111 ci_111 w_368 cm_111 cs_111 cd_111 cl_111 rfl rfl)))))) (ok_t_n (ok_t_n (ok_t_n (ok_t_l (ok_aload_n dX5_run_41 rfl)) (ok_t_l (ok_getfield dX5_run_42 (ci := 5) (kf := 4) rfl inGX5 (by decide) w_1279))) (ok_t_n (ok_t_l (ok_iload_n dX5_run_45 rfl)) (ok_t_l (ok_inv (run_V (y := 31) (n := 1) (ci := 3) dX5_run_46 cz_31 gdG cc_31 ci_31 w_449 cm_31 cs_31 cd_31 cl_31 rfl rfl))))) (ok_t_n (ok_t_n (ok_t_l (ok_aload_n dX5_run_49 rfl)) (ok_t_l (ok_iload dX5_run_50))) (ok_t_n (ok_t_l (ok_inv (run_V (y := 81) (n := 1) (ci := 5) dX5_run_52 cz_81 gdG cc_81 ci_81 w_537 cm_81 cs_81 cd_81 cl_81 rfl rfl))) (ok_t_l (ok_vreturn dX5_run_55)))))))
theorem dX5_tellFaults_0 : decode cX5_tellFaults 0 = .ok (.aload_n 0, 1) := by decide +kernel
theorem dX5_tellFaults_1 : decode cX5_tellFaults 1 = .ok (.getfield 12, 3) := by decide +kernel
theorem dX5_tellFaults_4 : decode cX5_tellFaults 4 = .ok (.invokevirtual 87, 3) := by decide +kernel
theorem dX5_tellFaults_7 : decode cX5_tellFaults 7 = .ok (.iconst 0, 1) := by decide +kernel
theorem dX5_tellFaults_8 : decode cX5_tellFaults 8 = .ok (.istore_n 2, 1) := by decide +kernel
theorem dX5_tellFaults_9 : decode cX5_tellFaults 9 = .ok (.iload_n 2, 1) := by decide +kernel
theorem dX5_tellFaults_10 : decode cX5_tellFaults 10 = .ok (.bipush 20, 2) := by decide +kernel
theorem dX5_tellFaults_12 : decode cX5_tellFaults 12 = .ok (.if_icmp .ge 31, 3) := by decide +kernel
theorem dX5_tellFaults_15 : decode cX5_tellFaults 15 = .ok (.aload_n 0, 1) := by decide +kernel
theorem dX5_tellFaults_16 : decode cX5_tellFaults 16 = .ok (.getfield 47, 3) := by decide +kernel
theorem dX5_tellFaults_19 : decode cX5_tellFaults 19 = .ok (.iload_n 2, 1) := by decide +kernel
theorem dX5_tellFaults_20 : decode cX5_tellFaults 20 = .ok (.invokevirtual 90, 3) := by decide +kernel
theorem dX5_tellFaults_23 : decode cX5_tellFaults 23 = .ok (.ifCond .eq 14, 3) := by decide +kernel
theorem dX5_tellFaults_26 : decode cX5_tellFaults 26 = .ok (.aload_n 0, 1) := by decide +kernel
theorem dX5_tellFaults_27 : decode cX5_tellFaults 27 = .ok (.getfield 12, 3) := by decide +kernel
theorem dX5_tellFaults_30 : decode cX5_tellFaults 30 = .ok (.iconst 1, 1) := by decide +kernel
theorem dX5_tellFaults_31 : decode cX5_tellFaults 31 = .ok (.iload_n 2, 1) := by decide +kernel
theorem dX5_tellFaults_32 : decode cX5_tellFaults 32 = .ok (.iconst (-1), 1) := by decide +kernel
theorem dX5_tellFaults_33 : decode cX5_tellFaults 33 = .ok (.iconst (-1), 1) := by decide +kernel
theorem dX5_tellFaults_34 : decode cX5_tellFaults 34 = .ok (.invokevirtual 94, 3) := by decide +kernel
theorem dX5_tellFaults_37 : decode cX5_tellFaults 37 = .ok (.iinc 2 1, 3) := by decide +kernel
theorem dX5_tellFaults_40 : decode cX5_tellFaults 40 = .ok (.goto (-31), 3) := by decide +kernel
theorem dX5_tellFaults_43 : decode cX5_tellFaults 43 = .ok (.aload_n 0, 1) := by decide +kernel
theorem dX5_tellFaults_44 : decode cX5_tellFaults 44 = .ok (.getfield 47, 3) := by decide +kernel
theorem dX5_tellFaults_47 : decode cX5_tellFaults 47 = .ok (.aload_n 0, 1) := by decide +kernel
theorem dX5_tellFaults_48 : decode cX5_tellFaults 48 = .ok (.getfield 25, 3) := by decide +kernel
theorem dX5_tellFaults_51 : decode cX5_tellFaults 51 = .ok (.invokevirtual 98, 3) := by decide +kernel
theorem dX5_tellFaults_54 : decode cX5_tellFaults 54 = .ok (.iconst (-1), 1) := by decide +kernel
theorem dX5_tellFaults_55 : decode cX5_tellFaults 55 = .ok (.if_icmp .ne 17, 3) := by decide +kernel
theorem dX5_tellFaults_58 : decode cX5_tellFaults 58 = .ok (.aload_n 0, 1) := by decide +kernel
theorem dX5_tellFaults_59 : decode cX5_tellFaults 59 = .ok (.getfield 12, 3) := by decide +kernel
theorem dX5_tellFaults_62 : decode cX5_tellFaults 62 = .ok (.iconst 2, 1) := by decide +kernel
theorem dX5_tellFaults_63 : decode cX5_tellFaults 63 = .ok (.aload_n 0, 1) := by decide +kernel
theorem dX5_tellFaults_64 : decode cX5_tellFaults 64 = .ok (.getfield 25, 3) := by decide +kernel
theorem dX5_tellFaults_67 : decode cX5_tellFaults 67 = .ok (.iconst (-1), 1) := by decide +kernel
theorem dX5_tellFaults_68 : decode cX5_tellFaults 68 = .ok (.iconst (-1), 1) := by decide +kernel
theorem dX5_tellFaults_69 : decode cX5_tellFaults 69 = .ok (.invokevirtual 94, 3) := by decide +kernel
theorem dX5_tellFaults_72 : decode cX5_tellFaults 72 = .ok (.iconst 0, 1) := by decide +kernel
theorem dX5_tellFaults_73 : decode cX5_tellFaults 73 = .ok (.istore_n 2, 1) := by decide +kernel
theorem dX5_tellFaults_74 : decode cX5_tellFaults 74 = .ok (.iload_n 2, 1) := by decide +kernel
theorem dX5_tellFaults_75 : decode cX5_tellFaults 75 = .ok (.aload_n 0, 1) := by decide +kernel
theorem dX5_tellFaults_76 : decode cX5_tellFaults 76 = .ok (.getfield 65, 3) := by decide +kernel
theorem dX5_tellFaults_79 : decode cX5_tellFaults 79 = .ok (.invokevirtual 102, 3) := by decide +kernel
theorem dX5_tellFaults_82 : decode cX5_tellFaults 82 = .ok (.if_icmp .ge 61, 3) := by decide +kernel
theorem dX5_tellFaults_85 : decode cX5_tellFaults 85 = .ok (.aload_n 0, 1) := by decide +kernel
theorem dX5_tellFaults_86 : decode cX5_tellFaults 86 = .ok (.getfield 65, 3) := by decide +kernel
theorem dX5_tellFaults_89 : decode cX5_tellFaults 89 = .ok (.iload_n 2, 1) := by decide +kernel
theorem dX5_tellFaults_90 : decode cX5_tellFaults 90 = .ok (.invokevirtual 106, 3) := by decide +kernel
theorem dX5_tellFaults_93 : decode cX5_tellFaults 93 = .ok (.istore_n 3, 1) := by decide +kernel
theorem dX5_tellFaults_94 : decode cX5_tellFaults 94 = .ok (.iconst 0, 1) := by decide +kernel
theorem dX5_tellFaults_95 : decode cX5_tellFaults 95 = .ok (.istore 4, 2) := by decide +kernel
theorem dX5_tellFaults_97 : decode cX5_tellFaults 97 = .ok (.iload 4, 2) := by decide +kernel
theorem dX5_tellFaults_99 : decode cX5_tellFaults 99 = .ok (.aload_n 0, 1) := by decide +kernel
theorem dX5_tellFaults_100 : decode cX5_tellFaults 100 = .ok (.getfield 29, 3) := by decide +kernel
theorem dX5_tellFaults_103 : decode cX5_tellFaults 103 = .ok (.iload_n 3, 1) := by decide +kernel
theorem dX5_tellFaults_104 : decode cX5_tellFaults 104 = .ok (.invokevirtual 109, 3) := by decide +kernel
theorem dX5_tellFaults_107 : decode cX5_tellFaults 107 = .ok (.if_icmp .ge 30, 3) := by decide +kernel
theorem dX5_tellFaults_110 : decode cX5_tellFaults 110 = .ok (.aload_n 0, 1) := by decide +kernel
theorem dX5_tellFaults_111 : decode cX5_tellFaults 111 = .ok (.getfield 29, 3) := by decide +kernel
theorem dX5_tellFaults_114 : decode cX5_tellFaults 114 = .ok (.iload_n 3, 1) := by decide +kernel
theorem dX5_tellFaults_115 : decode cX5_tellFaults 115 = .ok (.iload 4, 2) := by decide +kernel
theorem dX5_tellFaults_117 : decode cX5_tellFaults 117 = .ok (.invokevirtual 114, 3) := by decide +kernel
theorem dX5_tellFaults_120 : decode cX5_tellFaults 120 = .ok (.ifCond .eq 11, 3) := by decide +kernel
theorem dX5_tellFaults_123 : decode cX5_tellFaults 123 = .ok (.aload_n 0, 1) := by decide +kernel
theorem dX5_tellFaults_124 : decode cX5_tellFaults 124 = .ok (.iload_n 3, 1) := by decide +kernel
theorem dX5_tellFaults_125 : decode cX5_tellFaults 125 = .ok (.iload 4, 2) := by decide +kernel
theorem dX5_tellFaults_127 : decode cX5_tellFaults 127 = .ok (.iload_n 1, 1) := by decide +kernel
theorem dX5_tellFaults_128 : decode cX5_tellFaults 128 = .ok (.invokevirtual 118, 3) := by decide +kernel
theorem dX5_tellFaults_131 : decode cX5_tellFaults 131 = .ok (.iinc 4 1, 3) := by decide +kernel
theorem dX5_tellFaults_134 : decode cX5_tellFaults 134 = .ok (.goto (-37), 3) := by decide +kernel
theorem dX5_tellFaults_137 : decode cX5_tellFaults 137 = .ok (.iinc 2 1, 3) := by decide +kernel
theorem dX5_tellFaults_140 : decode cX5_tellFaults 140 = .ok (.goto (-66), 3) := by decide +kernel
theorem dX5_tellFaults_143 : decode cX5_tellFaults 143 = .ok (.return_, 1) := by decide +kernel
def g_X5_tellFaults : Nat → EA := (t_n 69 (t_n 33 (t_n 16 (t_n 8 (t_n 4 (t_n 1 (t_l 0 (a_aload 1 0)) (t_l 1 (a_getf 5 5))) (t_n 7 (t_l 4 (a_inv true 2 1 (some 0))) (t_l 7 (a_push 1 (.int 0))))) (t_n 10 (t_n 9 (t_l 8 (a_istore 5 1 2)) (t_l 9 (a_iload 1 2))) (t_n 12 (t_l 10 (a_push 2 (.int 20))) (t_n 15 (t_l 12 (a_ic 43 (fun x y => decide (y ≤ x)))) (t_l 15 (a_aload 1 0)))))) (t_n 26 (t_n 20 (t_n 19 (t_l 16 (a_getf 5 2)) (t_l 19 (a_iload 1 2))) (t_n 23 (t_l 20 (a_inv true 147 2 (some 9))) (t_l 23 (a_if 37 (fun x => decide (x = 0)))))) (t_n 30 (t_n 27 (t_l 26 (a_aload 1 0)) (t_l 27 (a_getf 5 5))) (t_n 31 (t_l 30 (a_push 1 (.int 1))) (t_n 32 (t_l 31 (a_iload 1 2)) (t_l 32 (a_push 1 (.int (-1))))))))) (t_n 54 (t_n 43 (t_n 37 (t_n 34 (t_l 33 (a_push 1 (.int (-1)))) (t_l 34 (a_inv true 3 5 (some 0)))) (t_n 40 (t_l 37 (a_iinc 5 2 1)) (t_l 40 (a_goto 9)))) (t_n 47 (t_n 44 (t_l 43 (a_aload 1 0)) (t_l 44 (a_getf 5 2))) (t_n 48 (t_l 47 (a_aload 1 0)) (t_n 51 (t_l 48 (a_getf 5 8)) (t_l 51 (a_inv true 140 2 (some 9))))))) (t_n 62 (t_n 58 (t_n 55 (t_l 54 (a_push 1 (.int (-1)))) (t_l 55 (a_ic 72 (fun x y => !decide (x = y))))) (t_n 59 (t_l 58 (a_aload 1 0)) (t_l 59 (a_getf 5 5)))) (t_n 64 (t_n 63 (t_l 62 (a_push 1 (.int 2))) (t_l 63 (a_aload 1 0))) (t_n 67 (t_l 64 (a_getf 5 8)) (t_n 68 (t_l 67 (a_push 1 (.int (-1)))) (t_l 68 (a_push 1 (.int (-1)))))))))) (t_n 103 (t_n 86 (t_n 75 (t_n 73 (t_n 72 (t_l 69 (a_inv true 3 5 (some 0))) (t_l 72 (a_push 1 (.int 0)))) (t_n 74 (t_l 73 (a_istore 5 1 2)) (t_l 74 (a_iload 1 2)))) (t_n 79 (t_n 76 (t_l 75 (a_aload 1 0)) (t_l 76 (a_getf 5 4))) (t_n 82 (t_l 79 (a_inv true 22 1 (some 3))) (t_n 85 (t_l 82 (a_ic 143 (fun x y => decide (y ≤ x)))) (t_l 85 (a_aload 1 0)))))) (t_n 94 (t_n 90 (t_n 89 (t_l 86 (a_getf 5 4)) (t_l 89 (a_iload 1 2))) (t_n 93 (t_l 90 (a_inv true 23 2 (some 3))) (t_l 93 (a_istore 5 1 3)))) (t_n 97 (t_n 95 (t_l 94 (a_push 1 (.int 0))) (t_l 95 (a_istore 5 2 4))) (t_n 99 (t_l 97 (a_iload 2 4)) (t_n 100 (t_l 99 (a_aload 1 0)) (t_l 100 (a_getf 5 0))))))) (t_n 123 (t_n 111 (t_n 107 (t_n 104 (t_l 103 (a_iload 1 3)) (t_l 104 (a_inv true 126 2 (some 8)))) (t_n 110 (t_l 107 (a_ic 137 (fun x y => decide (y ≤ x)))) (t_l 110 (a_aload 1 0)))) (t_n 115 (t_n 114 (t_l 111 (a_getf 5 0)) (t_l 114 (a_iload 1 3))) (t_n 117 (t_l 115 (a_iload 2 4)) (t_n 120 (t_l 117 (a_inv true 130 3 (some 8))) (t_l 120 (a_if 131 (fun x => decide (x = 0)))))))) (t_n 131 (t_n 125 (t_n 124 (t_l 123 (a_aload 1 0)) (t_l 124 (a_iload 1 3))) (t_n 127 (t_l 125 (a_iload 2 4)) (t_n 128 (t_l 127 (a_iload 1 1)) (t_l 128 (a_inv true 82 4 (some 5)))))) (t_n 137 (t_n 134 (t_l 131 (a_iinc 5 4 1)) (t_l 134 (a_goto 97))) (t_n 140 (t_l 137 (a_iinc 5 2 1)) (t_n 143 (t_l 140 (a_goto 74)) (t_l 143 a_vret))))))))
set_option maxRecDepth 100000 in
theorem k_X5_tellFaults (sc : Nat × (Nat → Int32)) (d : Nat) : ∀ pc, ev_Ok cX5_tellFaults 5 [] RX5 lw_g lw_n (lw_q sc) vwCl false (ev_CO mt lw_g lw_n (lw_q sc) vwCl d) pc (g_X5_tellFaults pc) := (ok_t_n (ok_t_n (ok_t_n (ok_t_n (ok_t_n (ok_t_n (ok_t_l (ok_aload_n dX5_tellFaults_0 rfl)) (ok_t_l (ok_getfield dX5_tellFaults_1 (ci := 5) (kf := 5) rfl inGX5 (by decide) w_1282))) (ok_t_n (ok_t_l (ok_inv (run_V (y := 2) (n := 0) (ci := 0) dX5_tellFaults_4 cz_2 gdG cc_2 ci_2 w_542 cm_2 cs_2 cd_2 cl_2 rfl rfl))) (ok_t_l (ok_iconst dX5_tellFaults_7 rfl)))) (ok_t_n (ok_t_n (ok_t_l (ok_istore_n dX5_tellFaults_8 rfl)) (ok_t_l (ok_iload_n dX5_tellFaults_9 rfl))) (ok_t_n (ok_t_l (ok_bipush dX5_tellFaults_10 rfl)) (ok_t_n (ok_t_l (ok_icmp_ge dX5_tellFaults_12 rfl)) (ok_t_l (ok_aload_n dX5_tellFaults_15 rfl)))))) (ok_t_n (ok_t_n (ok_t_n (ok_t_l (ok_getfield dX5_tellFaults_16 (ci := 5) (kf := 2) rfl inGX5 (by decide) w_1273)) (ok_t_l (ok_iload_n dX5_tellFaults_19 rfl))) (ok_t_n (ok_t_l (ok_inv (run_V (y := 147) (n := 1) (ci := 9) dX5_tellFaults_20 cz_147 gdG cc_147 ci_147 w_546 cm_147 cs_147 cd_147 cl_147 rfl rfl))) (ok_t_l (ok_if_eq dX5_tellFaults_23 rfl)))) (ok_t_n (ok_t_n (ok_t_l (ok_aload_n dX5_tellFaults_26 rfl)) (ok_t_l (ok_getfield dX5_tellFaults_27 (ci := 5) (kf := 5) rfl inGX5 (by decide) w_1282))) (ok_t_n (ok_t_l (ok_iconst dX5_tellFaults_30 rfl)) (ok_t_n (ok_t_l (ok_iload_n dX5_tellFaults_31 rfl)) (ok_t_l (ok_iconst dX5_tellFaults_32 rfl))))))) (ok_t_n (ok_t_n (ok_t_n (ok_t_n (ok_t_l (ok_iconst dX5_tellFaults_33 rfl)) (ok_t_l (ok_inv (run_V (y := 3) (n := 4) (ci := 0) dX5_tellFaults_34 cz_3 gdG cc_3 ci_3 w_550 cm_3 cs_3 cd_3 cl_3 rfl rfl)))) (ok_t_n (ok_t_l (ok_iinc dX5_tellFaults_37 rfl)) (ok_t_l (ok_goto dX5_tellFaults_40 rfl)))) (ok_t_n (ok_t_n (ok_t_l (ok_aload_n dX5_tellFaults_43 rfl)) (ok_t_l (ok_getfield dX5_tellFaults_44 (ci := 5) (kf := 2) rfl inGX5 (by decide) w_1273))) (ok_t_n (ok_t_l (ok_aload_n dX5_tellFaults_47 rfl)) (ok_t_n (ok_t_l (ok_getfield dX5_tellFaults_48 (ci := 5) (kf := 8) rfl inGX5 (by decide) w_1286)) (ok_t_l (ok_inv (run_V (y := 140) (n := 1) (ci := 9) dX5_tellFaults_51 cz_140 gdG cc_140 ci_140 w_554 cm_140 cs_140 cd_140 cl_140 rfl rfl))))))) (ok_t_n (ok_t_n (ok_t_n (ok_t_l (ok_iconst dX5_tellFaults_54 rfl)) (ok_t_l (ok_icmp_ne dX5_tellFaults_55 rfl))) (ok_t_n (ok_t_l (ok_aload_n dX5_tellFaults_58 rfl)) (ok_t_l (ok_getfield dX5_tellFaults_59 (ci := 5) (kf := 5) rfl inGX5 (by decide) w_1282)))) (ok_t_n (ok_t_n (ok_t_l (ok_iconst dX5_tellFaults_62 rfl)) (ok_t_l (ok_aload_n dX5_tellFaults_63 rfl))) (ok_t_n (ok_t_l (ok_getfield dX5_tellFaults_64 (ci := 5) (kf := 8) rfl inGX5 (by decide) w_1286)) (ok_t_n (ok_t_l (ok_iconst dX5_tellFaults_67 rfl)) (ok_t_l (ok_iconst dX5_tellFaults_68 rfl)))))))) (ok_t_n (ok_t_n (ok_t_n (ok_t_n (ok_t_n (ok_t_l (ok_inv (run_V (y := 3) (n := 4) (ci := 0) dX5_tellFaults_69 cz_3 gdG cc_3 ci_3 w_550 cm_3 cs_3 cd_3 cl_3 rfl rfl))) (ok_t_l (ok_iconst dX5_tellFaults_72 rfl))) (ok_t_n (ok_t_l (ok_istore_n dX5_tellFaults_73 rfl)) (ok_t_l (ok_iload_n dX5_tellFaults_74 rfl)))) (ok_t_n (ok_t_n (ok_t_l (ok_aload_n dX5_tellFaults_75 rfl)) (ok_t_l (ok_getfield dX5_tellFaults_76 (ci := 5) (kf := 4) rfl inGX5 (by decide) w_1279))) (ok_t_n (ok_t_l (ok_inv (run_V (y := 22) (n := 0) (ci := 3) dX5_tellFaults_79 cz_22 gdG cc_22 ci_22 w_555 cm_22 cs_22 cd_22 cl_22 rfl rfl))) (ok_t_n (ok_t_l (ok_icmp_ge dX5_tellFaults_82 rfl)) (ok_t_l (ok_aload_n dX5_tellFaults_85 rfl)))))) (ok_t_n (ok_t_n (ok_t_n (ok_t_l (ok_getfield dX5_tellFaults_86 (ci := 5) (kf := 4) rfl inGX5 (by decide) w_1279)) (ok_t_l (ok_iload_n dX5_tellFaults_89 rfl))) (ok_t_n (ok_t_l (ok_inv (run_V (y := 23) (n := 1) (ci := 3) dX5_tellFaults_90 cz_23 gdG cc_23 ci_23 w_559 cm_23 cs_23 cd_23 cl_23 rfl rfl))) (ok_t_l (ok_istore_n dX5_tellFaults_93 rfl)))) (ok_t_n (ok_t_n (ok_t_l (ok_iconst dX5_tellFaults_94 rfl)) (ok_t_l (ok_istore dX5_tellFaults_95))) (ok_t_n (ok_t_l (ok_iload dX5_tellFaults_97)) (ok_t_n (ok_t_l (ok_aload_n dX5_tellFaults_99 rfl)) (ok_t_l (ok_getfield dX5_tellFaults_100 (ci := 5) (kf := 0) rfl inGX5 (by decide) w_1270))))))) (ok_t_n (ok_t_n (ok_t_n (ok_t_n (ok_t_l (ok_iload_n dX5_tellFaults_103 rfl)) (ok_t_l (ok_inv (run_V (y := 126) (n := 1) (ci := 8) dX5_tellFaults_104 cz_126 gdG cc_126 ci_126 w_563 cm_126 cs_126 cd_126 cl_126 rfl rfl)))) (ok_t_n (ok_t_l (ok_icmp_ge dX5_tellFaults_107 rfl)) (ok_t_l (ok_aload_n dX5_tellFaults_110 rfl)))) (ok_t_n (ok_t_n (ok_t_l (ok_getfield dX5_tellFaults_111 (ci := 5) (kf := 0) rfl inGX5 (by decide) w_1270)) (ok_t_l (ok_iload_n dX5_tellFaults_114 rfl))) (ok_t_n (ok_t_l (ok_iload dX5_tellFaults_115)) (ok_t_n (ok_t_l (ok_inv (run_V (y := 130) (n := 2) (ci := 8) dX5_tellFaults_117 cz_130 gdG cc_130 ci_130 w_564 cm_130 cs_130 cd_130 cl_130 rfl rfl))) (ok_t_l (ok_if_eq dX5_tellFaults_120 rfl)))))) (ok_t_n (ok_t_n (ok_t_n (ok_t_l (ok_aload_n dX5_tellFaults_123 rfl)) (ok_t_l (ok_iload_n dX5_tellFaults_124 rfl))) (ok_t_n (ok_t_l (ok_iload dX5_tellFaults_125)) (ok_t_n (ok_t_l (ok_iload_n dX5_tellFaults_127 rfl)) (ok_t_l (ok_inv (run_V (y := 82) (n := 3) (ci := 5) dX5_tellFaults_128 cz_82 gdG cc_82 ci_82 w_565 cm_82 cs_82 cd_82 cl_82 rfl rfl)))))) (ok_t_n (ok_t_n (ok_t_l (ok_iinc dX5_tellFaults_131 rfl)) (ok_t_l (ok_goto dX5_tellFaults_134 rfl))) (ok_t_n (ok_t_l (ok_iinc dX5_tellFaults_137 rfl)) (ok_t_n (ok_t_l (ok_goto dX5_tellFaults_140 rfl)) (ok_t_l (ok_vreturn dX5_tellFaults_143)))))))))
theorem dX5_tellFaultsOf_0 : decode cX5_tellFaultsOf 0 = .ok (.aload_n 0, 1) := by decide +kernel
theorem dX5_tellFaultsOf_1 : decode cX5_tellFaultsOf 1 = .ok (.getfield 29, 3) := by decide +kernel
theorem dX5_tellFaultsOf_4 : decode cX5_tellFaultsOf 4 = .ok (.iload_n 1, 1) := by decide +kernel
theorem dX5_tellFaultsOf_5 : decode cX5_tellFaultsOf 5 = .ok (.iload_n 2, 1) := by decide +kernel
theorem dX5_tellFaultsOf_6 : decode cX5_tellFaultsOf 6 = .ok (.invokevirtual 122, 3) := by decide +kernel
theorem dX5_tellFaultsOf_9 : decode cX5_tellFaultsOf 9 = .ok (.istore 4, 2) := by decide +kernel
theorem dX5_tellFaultsOf_11 : decode cX5_tellFaultsOf 11 = .ok (.aload_n 0, 1) := by decide +kernel
theorem dX5_tellFaultsOf_12 : decode cX5_tellFaultsOf 12 = .ok (.getfield 56, 3) := by decide +kernel
theorem dX5_tellFaultsOf_15 : decode cX5_tellFaultsOf 15 = .ok (.iload 4, 2) := by decide +kernel
theorem dX5_tellFaultsOf_17 : decode cX5_tellFaultsOf 17 = .ok (.invokevirtual 126, 3) := by decide +kernel
theorem dX5_tellFaultsOf_20 : decode cX5_tellFaultsOf 20 = .ok (.ifCond .eq 4, 3) := by decide +kernel
theorem dX5_tellFaultsOf_23 : decode cX5_tellFaultsOf 23 = .ok (.return_, 1) := by decide +kernel
theorem dX5_tellFaultsOf_24 : decode cX5_tellFaultsOf 24 = .ok (.aload_n 0, 1) := by decide +kernel
theorem dX5_tellFaultsOf_25 : decode cX5_tellFaultsOf 25 = .ok (.getfield 47, 3) := by decide +kernel
theorem dX5_tellFaultsOf_28 : decode cX5_tellFaultsOf 28 = .ok (.iload 4, 2) := by decide +kernel
theorem dX5_tellFaultsOf_30 : decode cX5_tellFaultsOf 30 = .ok (.invokevirtual 98, 3) := by decide +kernel
theorem dX5_tellFaultsOf_33 : decode cX5_tellFaultsOf 33 = .ok (.iconst (-1), 1) := by decide +kernel
theorem dX5_tellFaultsOf_34 : decode cX5_tellFaultsOf 34 = .ok (.if_icmp .ne 27, 3) := by decide +kernel
theorem dX5_tellFaultsOf_37 : decode cX5_tellFaultsOf 37 = .ok (.aload_n 0, 1) := by decide +kernel
theorem dX5_tellFaultsOf_38 : decode cX5_tellFaultsOf 38 = .ok (.getfield 29, 3) := by decide +kernel
theorem dX5_tellFaultsOf_41 : decode cX5_tellFaultsOf 41 = .ok (.iload_n 1, 1) := by decide +kernel
theorem dX5_tellFaultsOf_42 : decode cX5_tellFaultsOf 42 = .ok (.iload_n 2, 1) := by decide +kernel
theorem dX5_tellFaultsOf_43 : decode cX5_tellFaultsOf 43 = .ok (.invokevirtual 129, 3) := by decide +kernel
theorem dX5_tellFaultsOf_46 : decode cX5_tellFaultsOf 46 = .ok (.ifCond .ne 15, 3) := by decide +kernel
theorem dX5_tellFaultsOf_49 : decode cX5_tellFaultsOf 49 = .ok (.aload_n 0, 1) := by decide +kernel
theorem dX5_tellFaultsOf_50 : decode cX5_tellFaultsOf 50 = .ok (.getfield 12, 3) := by decide +kernel
theorem dX5_tellFaultsOf_53 : decode cX5_tellFaultsOf 53 = .ok (.iconst 3, 1) := by decide +kernel
theorem dX5_tellFaultsOf_54 : decode cX5_tellFaultsOf 54 = .ok (.iload 4, 2) := by decide +kernel
theorem dX5_tellFaultsOf_56 : decode cX5_tellFaultsOf 56 = .ok (.iload_n 1, 1) := by decide +kernel
theorem dX5_tellFaultsOf_57 : decode cX5_tellFaultsOf 57 = .ok (.iload_n 2, 1) := by decide +kernel
theorem dX5_tellFaultsOf_58 : decode cX5_tellFaultsOf 58 = .ok (.invokevirtual 94, 3) := by decide +kernel
theorem dX5_tellFaultsOf_61 : decode cX5_tellFaultsOf 61 = .ok (.aload_n 0, 1) := by decide +kernel
theorem dX5_tellFaultsOf_62 : decode cX5_tellFaultsOf 62 = .ok (.getfield 29, 3) := by decide +kernel
theorem dX5_tellFaultsOf_65 : decode cX5_tellFaultsOf 65 = .ok (.iload_n 1, 1) := by decide +kernel
theorem dX5_tellFaultsOf_66 : decode cX5_tellFaultsOf 66 = .ok (.iload_n 2, 1) := by decide +kernel
theorem dX5_tellFaultsOf_67 : decode cX5_tellFaultsOf 67 = .ok (.invokevirtual 132, 3) := by decide +kernel
theorem dX5_tellFaultsOf_70 : decode cX5_tellFaultsOf 70 = .ok (.iconst 1, 1) := by decide +kernel
theorem dX5_tellFaultsOf_71 : decode cX5_tellFaultsOf 71 = .ok (.if_icmp .ne 47, 3) := by decide +kernel
theorem dX5_tellFaultsOf_74 : decode cX5_tellFaultsOf 74 = .ok (.aload_n 0, 1) := by decide +kernel
theorem dX5_tellFaultsOf_75 : decode cX5_tellFaultsOf 75 = .ok (.getfield 65, 3) := by decide +kernel
theorem dX5_tellFaultsOf_78 : decode cX5_tellFaultsOf 78 = .ok (.iload 4, 2) := by decide +kernel
theorem dX5_tellFaultsOf_80 : decode cX5_tellFaultsOf 80 = .ok (.invokevirtual 134, 3) := by decide +kernel
theorem dX5_tellFaultsOf_83 : decode cX5_tellFaultsOf 83 = .ok (.aload_n 0, 1) := by decide +kernel
theorem dX5_tellFaultsOf_84 : decode cX5_tellFaultsOf 84 = .ok (.getfield 29, 3) := by decide +kernel
theorem dX5_tellFaultsOf_87 : decode cX5_tellFaultsOf 87 = .ok (.iload_n 1, 1) := by decide +kernel
theorem dX5_tellFaultsOf_88 : decode cX5_tellFaultsOf 88 = .ok (.iload_n 2, 1) := by decide +kernel
theorem dX5_tellFaultsOf_89 : decode cX5_tellFaultsOf 89 = .ok (.invokevirtual 137, 3) := by decide +kernel
theorem dX5_tellFaultsOf_92 : decode cX5_tellFaultsOf 92 = .ok (.iadd, 1) := by decide +kernel
theorem dX5_tellFaultsOf_93 : decode cX5_tellFaultsOf 93 = .ok (.istore 5, 2) := by decide +kernel
theorem dX5_tellFaultsOf_95 : decode cX5_tellFaultsOf 95 = .ok (.iload 5, 2) := by decide +kernel
theorem dX5_tellFaultsOf_97 : decode cX5_tellFaultsOf 97 = .ok (.ifCond .lt 9, 3) := by decide +kernel
theorem dX5_tellFaultsOf_100 : decode cX5_tellFaultsOf 100 = .ok (.iload 5, 2) := by decide +kernel
theorem dX5_tellFaultsOf_102 : decode cX5_tellFaultsOf 102 = .ok (.iload_n 3, 1) := by decide +kernel
theorem dX5_tellFaultsOf_103 : decode cX5_tellFaultsOf 103 = .ok (.if_icmp .le 15, 3) := by decide +kernel
theorem dX5_tellFaultsOf_106 : decode cX5_tellFaultsOf 106 = .ok (.aload_n 0, 1) := by decide +kernel
theorem dX5_tellFaultsOf_107 : decode cX5_tellFaultsOf 107 = .ok (.getfield 12, 3) := by decide +kernel
theorem dX5_tellFaultsOf_110 : decode cX5_tellFaultsOf 110 = .ok (.iconst 4, 1) := by decide +kernel
theorem dX5_tellFaultsOf_111 : decode cX5_tellFaultsOf 111 = .ok (.iload 4, 2) := by decide +kernel
theorem dX5_tellFaultsOf_113 : decode cX5_tellFaultsOf 113 = .ok (.iload_n 1, 1) := by decide +kernel
theorem dX5_tellFaultsOf_114 : decode cX5_tellFaultsOf 114 = .ok (.iload_n 2, 1) := by decide +kernel
theorem dX5_tellFaultsOf_115 : decode cX5_tellFaultsOf 115 = .ok (.invokevirtual 94, 3) := by decide +kernel
theorem dX5_tellFaultsOf_118 : decode cX5_tellFaultsOf 118 = .ok (.return_, 1) := by decide +kernel
def g_X5_tellFaultsOf : Nat → EA := (t_n 61 (t_n 30 (t_n 12 (t_n 5 (t_n 1 (t_l 0 (a_aload 1 0)) (t_n 4 (t_l 1 (a_getf 5 0)) (t_l 4 (a_iload 1 1)))) (t_n 9 (t_n 6 (t_l 5 (a_iload 1 2)) (t_l 6 (a_inv true 132 3 (some 8)))) (t_n 11 (t_l 9 (a_istore 6 2 4)) (t_l 11 (a_aload 1 0))))) (t_n 23 (t_n 17 (t_n 15 (t_l 12 (a_getf 5 3)) (t_l 15 (a_iload 2 4))) (t_n 20 (t_l 17 (a_inv true 109 2 (some 7))) (t_l 20 (a_if 24 (fun x => decide (x = 0)))))) (t_n 25 (t_n 24 (t_l 23 a_vret) (t_l 24 (a_aload 1 0))) (t_n 28 (t_l 25 (a_getf 5 2)) (t_l 28 (a_iload 2 4)))))) (t_n 46 (t_n 38 (t_n 34 (t_n 33 (t_l 30 (a_inv true 140 2 (some 9))) (t_l 33 (a_push 1 (.int (-1))))) (t_n 37 (t_l 34 (a_ic 61 (fun x y => !decide (x = y)))) (t_l 37 (a_aload 1 0)))) (t_n 42 (t_n 41 (t_l 38 (a_getf 5 0)) (t_l 41 (a_iload 1 1))) (t_n 43 (t_l 42 (a_iload 1 2)) (t_l 43 (a_inv true 134 3 (some 8)))))) (t_n 54 (t_n 50 (t_n 49 (t_l 46 (a_if 61 (fun x => !decide (x = 0)))) (t_l 49 (a_aload 1 0))) (t_n 53 (t_l 50 (a_getf 5 5)) (t_l 53 (a_push 1 (.int 3))))) (t_n 57 (t_n 56 (t_l 54 (a_iload 2 4)) (t_l 56 (a_iload 1 1))) (t_n 58 (t_l 57 (a_iload 1 2)) (t_l 58 (a_inv true 3 5 (some 0)))))))) (t_n 89 (t_n 74 (t_n 66 (t_n 62 (t_l 61 (a_aload 1 0)) (t_n 65 (t_l 62 (a_getf 5 0)) (t_l 65 (a_iload 1 1)))) (t_n 70 (t_n 67 (t_l 66 (a_iload 1 2)) (t_l 67 (a_inv true 129 3 (some 8)))) (t_n 71 (t_l 70 (a_push 1 (.int 1))) (t_l 71 (a_ic 118 (fun x y => !decide (x = y))))))) (t_n 83 (t_n 78 (t_n 75 (t_l 74 (a_aload 1 0)) (t_l 75 (a_getf 5 4))) (t_n 80 (t_l 78 (a_iload 2 4)) (t_l 80 (a_inv true 29 2 (some 3))))) (t_n 87 (t_n 84 (t_l 83 (a_aload 1 0)) (t_l 84 (a_getf 5 0))) (t_n 88 (t_l 87 (a_iload 1 1)) (t_l 88 (a_iload 1 2)))))) (t_n 106 (t_n 97 (t_n 93 (t_n 92 (t_l 89 (a_inv true 133 3 (some 8))) (t_l 92 (a_ii 1 (fun x y => x + y)))) (t_n 95 (t_l 93 (a_istore 6 2 5)) (t_l 95 (a_iload 2 5)))) (t_n 102 (t_n 100 (t_l 97 (a_if 106 (fun x => decide (x < 0)))) (t_l 100 (a_iload 2 5))) (t_n 103 (t_l 102 (a_iload 1 3)) (t_l 103 (a_ic 118 (fun x y => decide (x ≤ y))))))) (t_n 113 (t_n 110 (t_n 107 (t_l 106 (a_aload 1 0)) (t_l 107 (a_getf 5 5))) (t_n 111 (t_l 110 (a_push 1 (.int 4))) (t_l 111 (a_iload 2 4)))) (t_n 115 (t_n 114 (t_l 113 (a_iload 1 1)) (t_l 114 (a_iload 1 2))) (t_n 118 (t_l 115 (a_inv true 3 5 (some 0))) (t_l 118 a_vret)))))))
set_option maxRecDepth 100000 in
theorem k_X5_tellFaultsOf (sc : Nat × (Nat → Int32)) (d : Nat) : ∀ pc, ev_Ok cX5_tellFaultsOf 6 [] RX5 lw_g lw_n (lw_q sc) vwCl false (ev_CO mt lw_g lw_n (lw_q sc) vwCl d) pc (g_X5_tellFaultsOf pc) := (ok_t_n (ok_t_n (ok_t_n (ok_t_n (ok_t_n (ok_t_l (ok_aload_n dX5_tellFaultsOf_0 rfl)) (ok_t_n (ok_t_l (ok_getfield dX5_tellFaultsOf_1 (ci := 5) (kf := 0) rfl inGX5 (by decide) w_1270)) (ok_t_l (ok_iload_n dX5_tellFaultsOf_4 rfl)))) (ok_t_n (ok_t_n (ok_t_l (ok_iload_n dX5_tellFaultsOf_5 rfl)) (ok_t_l (ok_inv (run_V (y := 132) (n := 2) (ci := 8) dX5_tellFaultsOf_6 cz_132 gdG cc_132 ci_132 w_569 cm_132 cs_132 cd_132 cl_132 rfl rfl)))) (ok_t_n (ok_t_l (ok_istore dX5_tellFaultsOf_9)) (ok_t_l (ok_aload_n dX5_tellFaultsOf_11 rfl))))) (ok_t_n (ok_t_n (ok_t_n (ok_t_l (ok_getfield dX5_tellFaultsOf_12 (ci := 5) (kf := 3) rfl inGX5 (by decide) w_1276)) (ok_t_l (ok_iload dX5_tellFaultsOf_15))) (ok_t_n (ok_t_l (ok_inv (run_V (y := 109) (n := 1) (ci := 7) dX5_tellFaultsOf_17 cz_109 gdG cc_109 ci_109 w_570 cm_109 cs_109 cd_109 cl_109 rfl rfl))) (ok_t_l (ok_if_eq dX5_tellFaultsOf_20 rfl)))) (ok_t_n (ok_t_n (ok_t_l (ok_vreturn dX5_tellFaultsOf_23)) (ok_t_l (ok_aload_n dX5_tellFaultsOf_24 rfl))) (ok_t_n (ok_t_l (ok_getfield dX5_tellFaultsOf_25 (ci := 5) (kf := 2) rfl inGX5 (by decide) w_1273)) (ok_t_l (ok_iload dX5_tellFaultsOf_28)))))) (ok_t_n (ok_t_n (ok_t_n (ok_t_n (ok_t_l (ok_inv (run_V (y := 140) (n := 1) (ci := 9) dX5_tellFaultsOf_30 cz_140 gdG cc_140 ci_140 w_554 cm_140 cs_140 cd_140 cl_140 rfl rfl))) (ok_t_l (ok_iconst dX5_tellFaultsOf_33 rfl))) (ok_t_n (ok_t_l (ok_icmp_ne dX5_tellFaultsOf_34 rfl)) (ok_t_l (ok_aload_n dX5_tellFaultsOf_37 rfl)))) (ok_t_n (ok_t_n (ok_t_l (ok_getfield dX5_tellFaultsOf_38 (ci := 5) (kf := 0) rfl inGX5 (by decide) w_1270)) (ok_t_l (ok_iload_n dX5_tellFaultsOf_41 rfl))) (ok_t_n (ok_t_l (ok_iload_n dX5_tellFaultsOf_42 rfl)) (ok_t_l (ok_inv (run_V (y := 134) (n := 2) (ci := 8) dX5_tellFaultsOf_43 cz_134 gdG cc_134 ci_134 w_574 cm_134 cs_134 cd_134 cl_134 rfl rfl)))))) (ok_t_n (ok_t_n (ok_t_n (ok_t_l (ok_if_ne dX5_tellFaultsOf_46 rfl)) (ok_t_l (ok_aload_n dX5_tellFaultsOf_49 rfl))) (ok_t_n (ok_t_l (ok_getfield dX5_tellFaultsOf_50 (ci := 5) (kf := 5) rfl inGX5 (by decide) w_1282)) (ok_t_l (ok_iconst dX5_tellFaultsOf_53 rfl)))) (ok_t_n (ok_t_n (ok_t_l (ok_iload dX5_tellFaultsOf_54)) (ok_t_l (ok_iload_n dX5_tellFaultsOf_56 rfl))) (ok_t_n (ok_t_l (ok_iload_n dX5_tellFaultsOf_57 rfl)) (ok_t_l (ok_inv (run_V (y := 3) (n := 4) (ci := 0) dX5_tellFaultsOf_58 cz_3 gdG cc_3 ci_3 w_550 cm_3 cs_3 cd_3 cl_3 rfl rfl)))))))) (ok_t_n (ok_t_n (ok_t_n (ok_t_n (ok_t_l (ok_aload_n dX5_tellFaultsOf_61 rfl)) (ok_t_n (ok_t_l (ok_getfield dX5_tellFaultsOf_62 (ci := 5) (kf := 0) rfl inGX5 (by decide) w_1270)) (ok_t_l (ok_iload_n dX5_tellFaultsOf_65 rfl)))) (ok_t_n (ok_t_n (ok_t_l (ok_iload_n dX5_tellFaultsOf_66 rfl)) (ok_t_l (ok_inv (run_V (y := 129) (n := 2) (ci := 8) dX5_tellFaultsOf_67 cz_129 gdG cc_129 ci_129 w_578 cm_129 cs_129 cd_129 cl_129 rfl rfl)))) (ok_t_n (ok_t_l (ok_iconst dX5_tellFaultsOf_70 rfl)) (ok_t_l (ok_icmp_ne dX5_tellFaultsOf_71 rfl))))) (ok_t_n (ok_t_n (ok_t_n (ok_t_l (ok_aload_n dX5_tellFaultsOf_74 rfl)) (ok_t_l (ok_getfield dX5_tellFaultsOf_75 (ci := 5) (kf := 4) rfl inGX5 (by decide) w_1279))) (ok_t_n (ok_t_l (ok_iload dX5_tellFaultsOf_78)) (ok_t_l (ok_inv (run_V (y := 29) (n := 1) (ci := 3) dX5_tellFaultsOf_80 cz_29 gdG cc_29 ci_29 w_579 cm_29 cs_29 cd_29 cl_29 rfl rfl))))) (ok_t_n (ok_t_n (ok_t_l (ok_aload_n dX5_tellFaultsOf_83 rfl)) (ok_t_l (ok_getfield dX5_tellFaultsOf_84 (ci := 5) (kf := 0) rfl inGX5 (by decide) w_1270))) (ok_t_n (ok_t_l (ok_iload_n dX5_tellFaultsOf_87 rfl)) (ok_t_l (ok_iload_n dX5_tellFaultsOf_88 rfl)))))) (ok_t_n (ok_t_n (ok_t_n (ok_t_n (ok_t_l (ok_inv (run_V (y := 133) (n := 2) (ci := 8) dX5_tellFaultsOf_89 cz_133 gdG cc_133 ci_133 w_580 cm_133 cs_133 cd_133 cl_133 rfl rfl))) (ok_t_l (ok_iadd dX5_tellFaultsOf_92))) (ok_t_n (ok_t_l (ok_istore dX5_tellFaultsOf_93)) (ok_t_l (ok_iload dX5_tellFaultsOf_95)))) (ok_t_n (ok_t_n (ok_t_l (ok_if_lt dX5_tellFaultsOf_97 rfl)) (ok_t_l (ok_iload dX5_tellFaultsOf_100))) (ok_t_n (ok_t_l (ok_iload_n dX5_tellFaultsOf_102 rfl)) (ok_t_l (ok_icmp_le dX5_tellFaultsOf_103 rfl))))) (ok_t_n (ok_t_n (ok_t_n (ok_t_l (ok_aload_n dX5_tellFaultsOf_106 rfl)) (ok_t_l (ok_getfield dX5_tellFaultsOf_107 (ci := 5) (kf := 5) rfl inGX5 (by decide) w_1282))) (ok_t_n (ok_t_l (ok_iconst dX5_tellFaultsOf_110 rfl)) (ok_t_l (ok_iload dX5_tellFaultsOf_111)))) (ok_t_n (ok_t_n (ok_t_l (ok_iload_n dX5_tellFaultsOf_113 rfl)) (ok_t_l (ok_iload_n dX5_tellFaultsOf_114 rfl))) (ok_t_n (ok_t_l (ok_inv (run_V (y := 3) (n := 4) (ci := 0) dX5_tellFaultsOf_115 cz_3 gdG cc_3 ci_3 w_550 cm_3 cs_3 cd_3 cl_3 rfl rfl))) (ok_t_l (ok_vreturn dX5_tellFaultsOf_118))))))))
theorem dX5_writeTo_0 : decode cX5_writeTo 0 = .ok (.aload_n 1, 1) := by decide +kernel
theorem dX5_writeTo_1 : decode cX5_writeTo 1 = .ok (.aload_n 0, 1) := by decide +kernel
theorem dX5_writeTo_2 : decode cX5_writeTo 2 = .ok (.getfield 65, 3) := by decide +kernel
theorem dX5_writeTo_5 : decode cX5_writeTo 5 = .ok (.invokevirtual 140, 3) := by decide +kernel
theorem dX5_writeTo_8 : decode cX5_writeTo 8 = .ok (.invokevirtual 143, 3) := by decide +kernel
theorem dX5_writeTo_11 : decode cX5_writeTo 11 = .ok (.iconst 0, 1) := by decide +kernel
theorem dX5_writeTo_12 : decode cX5_writeTo 12 = .ok (.istore_n 2, 1) := by decide +kernel
theorem dX5_writeTo_13 : decode cX5_writeTo 13 = .ok (.iload_n 2, 1) := by decide +kernel
theorem dX5_writeTo_14 : decode cX5_writeTo 14 = .ok (.aload_n 0, 1) := by decide +kernel
theorem dX5_writeTo_15 : decode cX5_writeTo 15 = .ok (.getfield 65, 3) := by decide +kernel
theorem dX5_writeTo_18 : decode cX5_writeTo 18 = .ok (.invokevirtual 102, 3) := by decide +kernel
theorem dX5_writeTo_21 : decode cX5_writeTo 21 = .ok (.if_icmp .ge 75, 3) := by decide +kernel
theorem dX5_writeTo_24 : decode cX5_writeTo 24 = .ok (.aload_n 0, 1) := by decide +kernel
theorem dX5_writeTo_25 : decode cX5_writeTo 25 = .ok (.getfield 65, 3) := by decide +kernel
theorem dX5_writeTo_28 : decode cX5_writeTo 28 = .ok (.iload_n 2, 1) := by decide +kernel
theorem dX5_writeTo_29 : decode cX5_writeTo 29 = .ok (.invokevirtual 106, 3) := by decide +kernel
theorem dX5_writeTo_32 : decode cX5_writeTo 32 = .ok (.istore_n 3, 1) := by decide +kernel
theorem dX5_writeTo_33 : decode cX5_writeTo 33 = .ok (.aload_n 0, 1) := by decide +kernel
theorem dX5_writeTo_34 : decode cX5_writeTo 34 = .ok (.getfield 65, 3) := by decide +kernel
theorem dX5_writeTo_37 : decode cX5_writeTo 37 = .ok (.iload_n 3, 1) := by decide +kernel
theorem dX5_writeTo_38 : decode cX5_writeTo 38 = .ok (.invokevirtual 148, 3) := by decide +kernel
theorem dX5_writeTo_41 : decode cX5_writeTo 41 = .ok (.istore 4, 2) := by decide +kernel
theorem dX5_writeTo_43 : decode cX5_writeTo 43 = .ok (.iconst 0, 1) := by decide +kernel
theorem dX5_writeTo_44 : decode cX5_writeTo 44 = .ok (.istore 5, 2) := by decide +kernel
theorem dX5_writeTo_46 : decode cX5_writeTo 46 = .ok (.iload 5, 2) := by decide +kernel
theorem dX5_writeTo_48 : decode cX5_writeTo 48 = .ok (.aload_n 0, 1) := by decide +kernel
theorem dX5_writeTo_49 : decode cX5_writeTo 49 = .ok (.getfield 29, 3) := by decide +kernel
theorem dX5_writeTo_52 : decode cX5_writeTo 52 = .ok (.iload_n 3, 1) := by decide +kernel
theorem dX5_writeTo_53 : decode cX5_writeTo 53 = .ok (.invokevirtual 109, 3) := by decide +kernel
theorem dX5_writeTo_56 : decode cX5_writeTo 56 = .ok (.if_icmp .ge 34, 3) := by decide +kernel
theorem dX5_writeTo_59 : decode cX5_writeTo 59 = .ok (.aload_n 0, 1) := by decide +kernel
theorem dX5_writeTo_60 : decode cX5_writeTo 60 = .ok (.aload_n 1, 1) := by decide +kernel
theorem dX5_writeTo_61 : decode cX5_writeTo 61 = .ok (.iload 4, 2) := by decide +kernel
theorem dX5_writeTo_63 : decode cX5_writeTo 63 = .ok (.iload_n 3, 1) := by decide +kernel
theorem dX5_writeTo_64 : decode cX5_writeTo 64 = .ok (.iload 5, 2) := by decide +kernel
theorem dX5_writeTo_66 : decode cX5_writeTo 66 = .ok (.invokevirtual 151, 3) := by decide +kernel
theorem dX5_writeTo_69 : decode cX5_writeTo 69 = .ok (.iload 4, 2) := by decide +kernel
theorem dX5_writeTo_71 : decode cX5_writeTo 71 = .ok (.aload_n 0, 1) := by decide +kernel
theorem dX5_writeTo_72 : decode cX5_writeTo 72 = .ok (.getfield 65, 3) := by decide +kernel
theorem dX5_writeTo_75 : decode cX5_writeTo 75 = .ok (.iload_n 3, 1) := by decide +kernel
theorem dX5_writeTo_76 : decode cX5_writeTo 76 = .ok (.iload 5, 2) := by decide +kernel
theorem dX5_writeTo_78 : decode cX5_writeTo 78 = .ok (.invokevirtual 155, 3) := by decide +kernel
theorem dX5_writeTo_81 : decode cX5_writeTo 81 = .ok (.iadd, 1) := by decide +kernel
theorem dX5_writeTo_82 : decode cX5_writeTo 82 = .ok (.istore 4, 2) := by decide +kernel
theorem dX5_writeTo_84 : decode cX5_writeTo 84 = .ok (.iinc 5 1, 3) := by decide +kernel
theorem dX5_writeTo_87 : decode cX5_writeTo 87 = .ok (.goto (-41), 3) := by decide +kernel
theorem dX5_writeTo_90 : decode cX5_writeTo 90 = .ok (.iinc 2 1, 3) := by decide +kernel
theorem dX5_writeTo_93 : decode cX5_writeTo 93 = .ok (.goto (-80), 3) := by decide +kernel
theorem dX5_writeTo_96 : decode cX5_writeTo 96 = .ok (.return_, 1) := by decide +kernel
def g_X5_writeTo : Nat → EA := (t_n 46 (t_n 24 (t_n 12 (t_n 5 (t_n 1 (t_l 0 (a_aload 1 1)) (t_n 2 (t_l 1 (a_aload 1 0)) (t_l 2 (a_getf 5 4)))) (t_n 8 (t_l 5 (a_inv true 21 1 (some 3))) (t_n 11 (t_l 8 (a_inv true 6 2 (some 1))) (t_l 11 (a_push 1 (.int 0)))))) (t_n 15 (t_n 13 (t_l 12 (a_istore 6 1 2)) (t_n 14 (t_l 13 (a_iload 1 2)) (t_l 14 (a_aload 1 0)))) (t_n 18 (t_l 15 (a_getf 5 4)) (t_n 21 (t_l 18 (a_inv true 22 1 (some 3))) (t_l 21 (a_ic 96 (fun x y => decide (y ≤ x)))))))) (t_n 34 (t_n 29 (t_n 25 (t_l 24 (a_aload 1 0)) (t_n 28 (t_l 25 (a_getf 5 4)) (t_l 28 (a_iload 1 2)))) (t_n 32 (t_l 29 (a_inv true 23 2 (some 3))) (t_n 33 (t_l 32 (a_istore 6 1 3)) (t_l 33 (a_aload 1 0))))) (t_n 41 (t_n 37 (t_l 34 (a_getf 5 4)) (t_n 38 (t_l 37 (a_iload 1 3)) (t_l 38 (a_inv true 24 2 (some 3))))) (t_n 43 (t_l 41 (a_istore 6 2 4)) (t_n 44 (t_l 43 (a_push 1 (.int 0))) (t_l 44 (a_istore 6 2 5))))))) (t_n 69 (t_n 59 (t_n 52 (t_n 48 (t_l 46 (a_iload 2 5)) (t_n 49 (t_l 48 (a_aload 1 0)) (t_l 49 (a_getf 5 0)))) (t_n 53 (t_l 52 (a_iload 1 3)) (t_n 56 (t_l 53 (a_inv true 126 2 (some 8))) (t_l 56 (a_ic 90 (fun x y => decide (y ≤ x))))))) (t_n 63 (t_n 60 (t_l 59 (a_aload 1 0)) (t_n 61 (t_l 60 (a_aload 1 1)) (t_l 61 (a_iload 2 4)))) (t_n 64 (t_l 63 (a_iload 1 3)) (t_n 66 (t_l 64 (a_iload 2 5)) (t_l 66 (a_inv true 84 5 (some 5))))))) (t_n 81 (t_n 75 (t_n 71 (t_l 69 (a_iload 2 4)) (t_n 72 (t_l 71 (a_aload 1 0)) (t_l 72 (a_getf 5 4)))) (t_n 76 (t_l 75 (a_iload 1 3)) (t_n 78 (t_l 76 (a_iload 2 5)) (t_l 78 (a_inv true 30 3 (some 3)))))) (t_n 87 (t_n 82 (t_l 81 (a_ii 1 (fun x y => x + y))) (t_n 84 (t_l 82 (a_istore 6 2 4)) (t_l 84 (a_iinc 6 5 1)))) (t_n 93 (t_n 90 (t_l 87 (a_goto 46)) (t_l 90 (a_iinc 6 2 1))) (t_n 96 (t_l 93 (a_goto 13)) (t_l 96 a_vret)))))))
set_option maxRecDepth 100000 in
theorem k_X5_writeTo (sc : Nat × (Nat → Int32)) (d : Nat) : ∀ pc, ev_Ok cX5_writeTo 6 [] RX5 lw_g lw_n (lw_q sc) vwCl false (ev_CO mt lw_g lw_n (lw_q sc) vwCl d) pc (g_X5_writeTo pc) := (ok_t_n (ok_t_n (ok_t_n (ok_t_n (ok_t_n (ok_t_l (ok_aload_n dX5_writeTo_0 rfl)) (ok_t_n (ok_t_l (ok_aload_n dX5_writeTo_1 rfl)) (ok_t_l (ok_getfield dX5_writeTo_2 (ci := 5) (kf := 4) rfl inGX5 (by decide) w_1279)))) (ok_t_n (ok_t_l (ok_inv (run_V (y := 21) (n := 0) (ci := 3) dX5_writeTo_5 cz_21 gdG cc_21 ci_21 w_588 cm_21 cs_21 cd_21 cl_21 rfl rfl))) (ok_t_n (ok_t_l (ok_inv (run_V (y := 6) (n := 1) (ci := 1) dX5_writeTo_8 cz_6 gdG cc_6 ci_6 w_592 cm_6 cs_6 cd_6 cl_6 rfl rfl))) (ok_t_l (ok_iconst dX5_writeTo_11 rfl))))) (ok_t_n (ok_t_n (ok_t_l (ok_istore_n dX5_writeTo_12 rfl)) (ok_t_n (ok_t_l (ok_iload_n dX5_writeTo_13 rfl)) (ok_t_l (ok_aload_n dX5_writeTo_14 rfl)))) (ok_t_n (ok_t_l (ok_getfield dX5_writeTo_15 (ci := 5) (kf := 4) rfl inGX5 (by decide) w_1279)) (ok_t_n (ok_t_l (ok_inv (run_V (y := 22) (n := 0) (ci := 3) dX5_writeTo_18 cz_22 gdG cc_22 ci_22 w_555 cm_22 cs_22 cd_22 cl_22 rfl rfl))) (ok_t_l (ok_icmp_ge dX5_writeTo_21 rfl)))))) (ok_t_n (ok_t_n (ok_t_n (ok_t_l (ok_aload_n dX5_writeTo_24 rfl)) (ok_t_n (ok_t_l (ok_getfield dX5_writeTo_25 (ci := 5) (kf := 4) rfl inGX5 (by decide) w_1279)) (ok_t_l (ok_iload_n dX5_writeTo_28 rfl)))) (ok_t_n (ok_t_l (ok_inv (run_V (y := 23) (n := 1) (ci := 3) dX5_writeTo_29 cz_23 gdG cc_23 ci_23 w_559 cm_23 cs_23 cd_23 cl_23 rfl rfl))) (ok_t_n (ok_t_l (ok_istore_n dX5_writeTo_32 rfl)) (ok_t_l (ok_aload_n dX5_writeTo_33 rfl))))) (ok_t_n (ok_t_n (ok_t_l (ok_getfield dX5_writeTo_34 (ci := 5) (kf := 4) rfl inGX5 (by decide) w_1279)) (ok_t_n (ok_t_l (ok_iload_n dX5_writeTo_37 rfl)) (ok_t_l (ok_inv (run_V (y := 24) (n := 1) (ci := 3) dX5_writeTo_38 cz_24 gdG cc_24 ci_24 w_597 cm_24 cs_24 cd_24 cl_24 rfl rfl))))) (ok_t_n (ok_t_l (ok_istore dX5_writeTo_41)) (ok_t_n (ok_t_l (ok_iconst dX5_writeTo_43 rfl)) (ok_t_l (ok_istore dX5_writeTo_44))))))) (ok_t_n (ok_t_n (ok_t_n (ok_t_n (ok_t_l (ok_iload dX5_writeTo_46)) (ok_t_n (ok_t_l (ok_aload_n dX5_writeTo_48 rfl)) (ok_t_l (ok_getfield dX5_writeTo_49 (ci := 5) (kf := 0) rfl inGX5 (by decide) w_1270)))) (ok_t_n (ok_t_l (ok_iload_n dX5_writeTo_52 rfl)) (ok_t_n (ok_t_l (ok_inv (run_V (y := 126) (n := 1) (ci := 8) dX5_writeTo_53 cz_126 gdG cc_126 ci_126 w_563 cm_126 cs_126 cd_126 cl_126 rfl rfl))) (ok_t_l (ok_icmp_ge dX5_writeTo_56 rfl))))) (ok_t_n (ok_t_n (ok_t_l (ok_aload_n dX5_writeTo_59 rfl)) (ok_t_n (ok_t_l (ok_aload_n dX5_writeTo_60 rfl)) (ok_t_l (ok_iload dX5_writeTo_61)))) (ok_t_n (ok_t_l (ok_iload_n dX5_writeTo_63 rfl)) (ok_t_n (ok_t_l (ok_iload dX5_writeTo_64)) (ok_t_l (ok_inv (run_V (y := 84) (n := 4) (ci := 5) dX5_writeTo_66 cz_84 gdG cc_84 ci_84 w_601 cm_84 cs_84 cd_84 cl_84 rfl rfl))))))) (ok_t_n (ok_t_n (ok_t_n (ok_t_l (ok_iload dX5_writeTo_69)) (ok_t_n (ok_t_l (ok_aload_n dX5_writeTo_71 rfl)) (ok_t_l (ok_getfield dX5_writeTo_72 (ci := 5) (kf := 4) rfl inGX5 (by decide) w_1279)))) (ok_t_n (ok_t_l (ok_iload_n dX5_writeTo_75 rfl)) (ok_t_n (ok_t_l (ok_iload dX5_writeTo_76)) (ok_t_l (ok_inv (run_V (y := 30) (n := 2) (ci := 3) dX5_writeTo_78 cz_30 gdG cc_30 ci_30 w_609 cm_30 cs_30 cd_30 cl_30 rfl rfl)))))) (ok_t_n (ok_t_n (ok_t_l (ok_iadd dX5_writeTo_81)) (ok_t_n (ok_t_l (ok_istore dX5_writeTo_82)) (ok_t_l (ok_iinc dX5_writeTo_84 rfl)))) (ok_t_n (ok_t_n (ok_t_l (ok_goto dX5_writeTo_87 rfl)) (ok_t_l (ok_iinc dX5_writeTo_90 rfl))) (ok_t_n (ok_t_l (ok_goto dX5_writeTo_93 rfl)) (ok_t_l (ok_vreturn dX5_writeTo_96))))))))
theorem dX5_writePiece_0 : decode cX5_writePiece 0 = .ok (.aload_n 0, 1) := by decide +kernel
theorem dX5_writePiece_1 : decode cX5_writePiece 1 = .ok (.getfield 29, 3) := by decide +kernel
theorem dX5_writePiece_4 : decode cX5_writePiece 4 = .ok (.iload_n 3, 1) := by decide +kernel
theorem dX5_writePiece_5 : decode cX5_writePiece 5 = .ok (.iload 4, 2) := by decide +kernel
theorem dX5_writePiece_7 : decode cX5_writePiece 7 = .ok (.invokevirtual 114, 3) := by decide +kernel
theorem dX5_writePiece_10 : decode cX5_writePiece 10 = .ok (.ifCond .ne 4, 3) := by decide +kernel
theorem dX5_writePiece_13 : decode cX5_writePiece 13 = .ok (.return_, 1) := by decide +kernel
theorem dX5_writePiece_14 : decode cX5_writePiece 14 = .ok (.aload_n 0, 1) := by decide +kernel
theorem dX5_writePiece_15 : decode cX5_writePiece 15 = .ok (.getfield 65, 3) := by decide +kernel
theorem dX5_writePiece_18 : decode cX5_writePiece 18 = .ok (.aload_n 0, 1) := by decide +kernel
theorem dX5_writePiece_19 : decode cX5_writePiece 19 = .ok (.getfield 29, 3) := by decide +kernel
theorem dX5_writePiece_22 : decode cX5_writePiece 22 = .ok (.iload_n 3, 1) := by decide +kernel
theorem dX5_writePiece_23 : decode cX5_writePiece 23 = .ok (.iload 4, 2) := by decide +kernel
theorem dX5_writePiece_25 : decode cX5_writePiece 25 = .ok (.invokevirtual 122, 3) := by decide +kernel
theorem dX5_writePiece_28 : decode cX5_writePiece 28 = .ok (.invokevirtual 134, 3) := by decide +kernel
theorem dX5_writePiece_31 : decode cX5_writePiece 31 = .ok (.istore 5, 2) := by decide +kernel
theorem dX5_writePiece_33 : decode cX5_writePiece 33 = .ok (.aload_n 0, 1) := by decide +kernel
theorem dX5_writePiece_34 : decode cX5_writePiece 34 = .ok (.getfield 29, 3) := by decide +kernel
theorem dX5_writePiece_37 : decode cX5_writePiece 37 = .ok (.iload_n 3, 1) := by decide +kernel
theorem dX5_writePiece_38 : decode cX5_writePiece 38 = .ok (.iload 4, 2) := by decide +kernel
theorem dX5_writePiece_40 : decode cX5_writePiece 40 = .ok (.invokevirtual 132, 3) := by decide +kernel
theorem dX5_writePiece_43 : decode cX5_writePiece 43 = .ok (.iconst 1, 1) := by decide +kernel
theorem dX5_writePiece_44 : decode cX5_writePiece 44 = .ok (.if_icmp .ne 24, 3) := by decide +kernel
theorem dX5_writePiece_47 : decode cX5_writePiece 47 = .ok (.aload_n 1, 1) := by decide +kernel
theorem dX5_writePiece_48 : decode cX5_writePiece 48 = .ok (.iload_n 2, 1) := by decide +kernel
theorem dX5_writePiece_49 : decode cX5_writePiece 49 = .ok (.iload 5, 2) := by decide +kernel
theorem dX5_writePiece_51 : decode cX5_writePiece 51 = .ok (.aload_n 0, 1) := by decide +kernel
theorem dX5_writePiece_52 : decode cX5_writePiece 52 = .ok (.getfield 29, 3) := by decide +kernel
theorem dX5_writePiece_55 : decode cX5_writePiece 55 = .ok (.iload_n 3, 1) := by decide +kernel
theorem dX5_writePiece_56 : decode cX5_writePiece 56 = .ok (.iload 4, 2) := by decide +kernel
theorem dX5_writePiece_58 : decode cX5_writePiece 58 = .ok (.invokevirtual 137, 3) := by decide +kernel
theorem dX5_writePiece_61 : decode cX5_writePiece 61 = .ok (.iadd, 1) := by decide +kernel
theorem dX5_writePiece_62 : decode cX5_writePiece 62 = .ok (.invokevirtual 158, 3) := by decide +kernel
theorem dX5_writePiece_65 : decode cX5_writePiece 65 = .ok (.goto 55, 3) := by decide +kernel
theorem dX5_writePiece_68 : decode cX5_writePiece 68 = .ok (.aload_n 0, 1) := by decide +kernel
theorem dX5_writePiece_69 : decode cX5_writePiece 69 = .ok (.getfield 65, 3) := by decide +kernel
theorem dX5_writePiece_72 : decode cX5_writePiece 72 = .ok (.iload_n 3, 1) := by decide +kernel
theorem dX5_writePiece_73 : decode cX5_writePiece 73 = .ok (.iload 4, 2) := by decide +kernel
theorem dX5_writePiece_75 : decode cX5_writePiece 75 = .ok (.invokevirtual 155, 3) := by decide +kernel
theorem dX5_writePiece_78 : decode cX5_writePiece 78 = .ok (.iconst 2, 1) := by decide +kernel
theorem dX5_writePiece_79 : decode cX5_writePiece 79 = .ok (.if_icmp .ne 25, 3) := by decide +kernel
theorem dX5_writePiece_82 : decode cX5_writePiece 82 = .ok (.aload_n 1, 1) := by decide +kernel
theorem dX5_writePiece_83 : decode cX5_writePiece 83 = .ok (.iload_n 2, 1) := by decide +kernel
theorem dX5_writePiece_84 : decode cX5_writePiece 84 = .ok (.iconst (-1), 1) := by decide +kernel
theorem dX5_writePiece_85 : decode cX5_writePiece 85 = .ok (.invokevirtual 158, 3) := by decide +kernel
theorem dX5_writePiece_88 : decode cX5_writePiece 88 = .ok (.aload_n 1, 1) := by decide +kernel
theorem dX5_writePiece_89 : decode cX5_writePiece 89 = .ok (.iload_n 2, 1) := by decide +kernel
theorem dX5_writePiece_90 : decode cX5_writePiece 90 = .ok (.iconst 1, 1) := by decide +kernel
theorem dX5_writePiece_91 : decode cX5_writePiece 91 = .ok (.iadd, 1) := by decide +kernel
theorem dX5_writePiece_92 : decode cX5_writePiece 92 = .ok (.iload 5, 2) := by decide +kernel
theorem dX5_writePiece_94 : decode cX5_writePiece 94 = .ok (.iload_n 2, 1) := by decide +kernel
theorem dX5_writePiece_95 : decode cX5_writePiece 95 = .ok (.isub, 1) := by decide +kernel
theorem dX5_writePiece_96 : decode cX5_writePiece 96 = .ok (.iconst 2, 1) := by decide +kernel
theorem dX5_writePiece_97 : decode cX5_writePiece 97 = .ok (.isub, 1) := by decide +kernel
theorem dX5_writePiece_98 : decode cX5_writePiece 98 = .ok (.invokevirtual 158, 3) := by decide +kernel
theorem dX5_writePiece_101 : decode cX5_writePiece 101 = .ok (.goto 19, 3) := by decide +kernel
theorem dX5_writePiece_104 : decode cX5_writePiece 104 = .ok (.aload_n 1, 1) := by decide +kernel
theorem dX5_writePiece_105 : decode cX5_writePiece 105 = .ok (.iload_n 2, 1) := by decide +kernel
theorem dX5_writePiece_106 : decode cX5_writePiece 106 = .ok (.bipush (-2), 2) := by decide +kernel
theorem dX5_writePiece_108 : decode cX5_writePiece 108 = .ok (.invokevirtual 158, 3) := by decide +kernel
theorem dX5_writePiece_111 : decode cX5_writePiece 111 = .ok (.aload_n 1, 1) := by decide +kernel
theorem dX5_writePiece_112 : decode cX5_writePiece 112 = .ok (.iload_n 2, 1) := by decide +kernel
theorem dX5_writePiece_113 : decode cX5_writePiece 113 = .ok (.iconst 1, 1) := by decide +kernel
theorem dX5_writePiece_114 : decode cX5_writePiece 114 = .ok (.iadd, 1) := by decide +kernel
theorem dX5_writePiece_115 : decode cX5_writePiece 115 = .ok (.iload 5, 2) := by decide +kernel
theorem dX5_writePiece_117 : decode cX5_writePiece 117 = .ok (.invokevirtual 158, 3) := by decide +kernel
theorem dX5_writePiece_120 : decode cX5_writePiece 120 = .ok (.return_, 1) := by decide +kernel
def g_X5_writePiece : Nat → EA := (t_n 65 (t_n 33 (t_n 15 (t_n 7 (t_n 4 (t_n 1 (t_l 0 (a_aload 1 0)) (t_l 1 (a_getf 5 0))) (t_n 5 (t_l 4 (a_iload 1 3)) (t_l 5 (a_iload 2 4)))) (t_n 13 (t_n 10 (t_l 7 (a_inv true 130 3 (some 8))) (t_l 10 (a_if 14 (fun x => !decide (x = 0))))) (t_n 14 (t_l 13 a_vret) (t_l 14 (a_aload 1 0))))) (t_n 23 (t_n 19 (t_n 18 (t_l 15 (a_getf 5 4)) (t_l 18 (a_aload 1 0))) (t_n 22 (t_l 19 (a_getf 5 0)) (t_l 22 (a_iload 1 3)))) (t_n 28 (t_n 25 (t_l 23 (a_iload 2 4)) (t_l 25 (a_inv true 132 3 (some 8)))) (t_n 31 (t_l 28 (a_inv true 29 2 (some 3))) (t_l 31 (a_istore 6 2 5)))))) (t_n 48 (t_n 40 (t_n 37 (t_n 34 (t_l 33 (a_aload 1 0)) (t_l 34 (a_getf 5 0))) (t_n 38 (t_l 37 (a_iload 1 3)) (t_l 38 (a_iload 2 4)))) (t_n 44 (t_n 43 (t_l 40 (a_inv true 129 3 (some 8))) (t_l 43 (a_push 1 (.int 1)))) (t_n 47 (t_l 44 (a_ic 68 (fun x y => !decide (x = y)))) (t_l 47 (a_aload 1 1))))) (t_n 55 (t_n 51 (t_n 49 (t_l 48 (a_iload 1 2)) (t_l 49 (a_iload 2 5))) (t_n 52 (t_l 51 (a_aload 1 0)) (t_l 52 (a_getf 5 0)))) (t_n 58 (t_n 56 (t_l 55 (a_iload 1 3)) (t_l 56 (a_iload 2 4))) (t_n 61 (t_l 58 (a_inv true 133 3 (some 8))) (t_n 62 (t_l 61 (a_ii 1 (fun x y => x + y))) (t_l 62 (a_inv true 7 3 (some 1))))))))) (t_n 94 (t_n 82 (t_n 73 (t_n 69 (t_n 68 (t_l 65 (a_goto 120)) (t_l 68 (a_aload 1 0))) (t_n 72 (t_l 69 (a_getf 5 4)) (t_l 72 (a_iload 1 3)))) (t_n 78 (t_n 75 (t_l 73 (a_iload 2 4)) (t_l 75 (a_inv true 30 3 (some 3)))) (t_n 79 (t_l 78 (a_push 1 (.int 2))) (t_l 79 (a_ic 104 (fun x y => !decide (x = y))))))) (t_n 88 (t_n 84 (t_n 83 (t_l 82 (a_aload 1 1)) (t_l 83 (a_iload 1 2))) (t_n 85 (t_l 84 (a_push 1 (.int (-1)))) (t_l 85 (a_inv true 7 3 (some 1))))) (t_n 90 (t_n 89 (t_l 88 (a_aload 1 1)) (t_l 89 (a_iload 1 2))) (t_n 91 (t_l 90 (a_push 1 (.int 1))) (t_n 92 (t_l 91 (a_ii 1 (fun x y => x + y))) (t_l 92 (a_iload 2 5))))))) (t_n 106 (t_n 98 (t_n 96 (t_n 95 (t_l 94 (a_iload 1 2)) (t_l 95 (a_ii 1 (fun x y => x - y)))) (t_n 97 (t_l 96 (a_push 1 (.int 2))) (t_l 97 (a_ii 1 (fun x y => x - y))))) (t_n 104 (t_n 101 (t_l 98 (a_inv true 7 3 (some 1))) (t_l 101 (a_goto 120))) (t_n 105 (t_l 104 (a_aload 1 1)) (t_l 105 (a_iload 1 2))))) (t_n 113 (t_n 111 (t_n 108 (t_l 106 (a_push 2 (.int (-2)))) (t_l 108 (a_inv true 7 3 (some 1)))) (t_n 112 (t_l 111 (a_aload 1 1)) (t_l 112 (a_iload 1 2)))) (t_n 115 (t_n 114 (t_l 113 (a_push 1 (.int 1))) (t_l 114 (a_ii 1 (fun x y => x + y)))) (t_n 117 (t_l 115 (a_iload 2 5)) (t_n 120 (t_l 117 (a_inv true 7 3 (some 1))) (t_l 120 a_vret))))))))
set_option maxRecDepth 100000 in
theorem k_X5_writePiece (sc : Nat × (Nat → Int32)) (d : Nat) : ∀ pc, ev_Ok cX5_writePiece 6 [] RX5 lw_g lw_n (lw_q sc) vwCl false (ev_CO mt lw_g lw_n (lw_q sc) vwCl d) pc (g_X5_writePiece pc) := (ok_t_n (ok_t_n (ok_t_n (ok_t_n (ok_t_n (ok_t_n (ok_t_l (ok_aload_n dX5_writePiece_0 rfl)) (ok_t_l (ok_getfield dX5_writePiece_1 (ci := 5) (kf := 0) rfl inGX5 (by decide) w_1270))) (ok_t_n (ok_t_l (ok_iload_n dX5_writePiece_4 rfl)) (ok_t_l (ok_iload dX5_writePiece_5)))) (ok_t_n (ok_t_n (ok_t_l (ok_inv (run_V (y := 130) (n := 2) (ci := 8) dX5_writePiece_7 cz_130 gdG cc_130 ci_130 w_564 cm_130 cs_130 cd_130 cl_130 rfl rfl))) (ok_t_l (ok_if_ne dX5_writePiece_10 rfl))) (ok_t_n (ok_t_l (ok_vreturn dX5_writePiece_13)) (ok_t_l (ok_aload_n dX5_writePiece_14 rfl))))) (ok_t_n (ok_t_n (ok_t_n (ok_t_l (ok_getfield dX5_writePiece_15 (ci := 5) (kf := 4) rfl inGX5 (by decide) w_1279)) (ok_t_l (ok_aload_n dX5_writePiece_18 rfl))) (ok_t_n (ok_t_l (ok_getfield dX5_writePiece_19 (ci := 5) (kf := 0) rfl inGX5 (by decide) w_1270)) (ok_t_l (ok_iload_n dX5_writePiece_22 rfl)))) (ok_t_n (ok_t_n (ok_t_l (ok_iload dX5_writePiece_23)) (ok_t_l (ok_inv (run_V (y := 132) (n := 2) (ci := 8) dX5_writePiece_25 cz_132 gdG cc_132 ci_132 w_569 cm_132 cs_132 cd_132 cl_132 rfl rfl)))) (ok_t_n (ok_t_l (ok_inv (run_V (y := 29) (n := 1) (ci := 3) dX5_writePiece_28 cz_29 gdG cc_29 ci_29 w_579 cm_29 cs_29 cd_29 cl_29 rfl rfl))) (ok_t_l (ok_istore dX5_writePiece_31)))))) (ok_t_n (ok_t_n (ok_t_n (ok_t_n (ok_t_l (ok_aload_n dX5_writePiece_33 rfl)) (ok_t_l (ok_getfield dX5_writePiece_34 (ci := 5) (kf := 0) rfl inGX5 (by decide) w_1270))) (ok_t_n (ok_t_l (ok_iload_n dX5_writePiece_37 rfl)) (ok_t_l (ok_iload dX5_writePiece_38)))) (ok_t_n (ok_t_n (ok_t_l (ok_inv (run_V (y := 129) (n := 2) (ci := 8) dX5_writePiece_40 cz_129 gdG cc_129 ci_129 w_578 cm_129 cs_129 cd_129 cl_129 rfl rfl))) (ok_t_l (ok_iconst dX5_writePiece_43 rfl))) (ok_t_n (ok_t_l (ok_icmp_ne dX5_writePiece_44 rfl)) (ok_t_l (ok_aload_n dX5_writePiece_47 rfl))))) (ok_t_n (ok_t_n (ok_t_n (ok_t_l (ok_iload_n dX5_writePiece_48 rfl)) (ok_t_l (ok_iload dX5_writePiece_49))) (ok_t_n (ok_t_l (ok_aload_n dX5_writePiece_51 rfl)) (ok_t_l (ok_getfield dX5_writePiece_52 (ci := 5) (kf := 0) rfl inGX5 (by decide) w_1270)))) (ok_t_n (ok_t_n (ok_t_l (ok_iload_n dX5_writePiece_55 rfl)) (ok_t_l (ok_iload dX5_writePiece_56))) (ok_t_n (ok_t_l (ok_inv (run_V (y := 133) (n := 2) (ci := 8) dX5_writePiece_58 cz_133 gdG cc_133 ci_133 w_580 cm_133 cs_133 cd_133 cl_133 rfl rfl))) (ok_t_n (ok_t_l (ok_iadd dX5_writePiece_61)) (ok_t_l (ok_inv (run_V (y := 7) (n := 2) (ci := 1) dX5_writePiece_62 cz_7 gdG cc_7 ci_7 w_605 cm_7 cs_7 cd_7 cl_7 rfl rfl))))))))) (ok_t_n (ok_t_n (ok_t_n (ok_t_n (ok_t_n (ok_t_l (ok_goto dX5_writePiece_65 rfl)) (ok_t_l (ok_aload_n dX5_writePiece_68 rfl))) (ok_t_n (ok_t_l (ok_getfield dX5_writePiece_69 (ci := 5) (kf := 4) rfl inGX5 (by decide) w_1279)) (ok_t_l (ok_iload_n dX5_writePiece_72 rfl)))) (ok_t_n (ok_t_n (ok_t_l (ok_iload dX5_writePiece_73)) (ok_t_l (ok_inv (run_V (y := 30) (n := 2) (ci := 3) dX5_writePiece_75 cz_30 gdG cc_30 ci_30 w_609 cm_30 cs_30 cd_30 cl_30 rfl rfl)))) (ok_t_n (ok_t_l (ok_iconst dX5_writePiece_78 rfl)) (ok_t_l (ok_icmp_ne dX5_writePiece_79 rfl))))) (ok_t_n (ok_t_n (ok_t_n (ok_t_l (ok_aload_n dX5_writePiece_82 rfl)) (ok_t_l (ok_iload_n dX5_writePiece_83 rfl))) (ok_t_n (ok_t_l (ok_iconst dX5_writePiece_84 rfl)) (ok_t_l (ok_inv (run_V (y := 7) (n := 2) (ci := 1) dX5_writePiece_85 cz_7 gdG cc_7 ci_7 w_605 cm_7 cs_7 cd_7 cl_7 rfl rfl))))) (ok_t_n (ok_t_n (ok_t_l (ok_aload_n dX5_writePiece_88 rfl)) (ok_t_l (ok_iload_n dX5_writePiece_89 rfl))) (ok_t_n (ok_t_l (ok_iconst dX5_writePiece_90 rfl)) (ok_t_n (ok_t_l (ok_iadd dX5_writePiece_91)) (ok_t_l (ok_iload dX5_writePiece_92))))))) (ok_t_n (ok_t_n (ok_t_n (ok_t_n (ok_t_l (ok_iload_n dX5_writePiece_94 rfl)) (ok_t_l (ok_isub dX5_writePiece_95))) (ok_t_n (ok_t_l (ok_iconst dX5_writePiece_96 rfl)) (ok_t_l (ok_isub dX5_writePiece_97)))) (ok_t_n (ok_t_n (ok_t_l (ok_inv (run_V (y := 7) (n := 2) (ci := 1) dX5_writePiece_98 cz_7 gdG cc_7 ci_7 w_605 cm_7 cs_7 cd_7 cl_7 rfl rfl))) (ok_t_l (ok_goto dX5_writePiece_101 rfl))) (ok_t_n (ok_t_l (ok_aload_n dX5_writePiece_104 rfl)) (ok_t_l (ok_iload_n dX5_writePiece_105 rfl))))) (ok_t_n (ok_t_n (ok_t_n (ok_t_l (ok_bipush dX5_writePiece_106 rfl)) (ok_t_l (ok_inv (run_V (y := 7) (n := 2) (ci := 1) dX5_writePiece_108 cz_7 gdG cc_7 ci_7 w_605 cm_7 cs_7 cd_7 cl_7 rfl rfl)))) (ok_t_n (ok_t_l (ok_aload_n dX5_writePiece_111 rfl)) (ok_t_l (ok_iload_n dX5_writePiece_112 rfl)))) (ok_t_n (ok_t_n (ok_t_l (ok_iconst dX5_writePiece_113 rfl)) (ok_t_l (ok_iadd dX5_writePiece_114))) (ok_t_n (ok_t_l (ok_iload dX5_writePiece_115)) (ok_t_n (ok_t_l (ok_inv (run_V (y := 7) (n := 2) (ci := 1) dX5_writePiece_117 cz_7 gdG cc_7 ci_7 w_605 cm_7 cs_7 cd_7 cl_7 rfl rfl))) (ok_t_l (ok_vreturn dX5_writePiece_120)))))))))
theorem dX6_init_0 : decode cX6_init 0 = .ok (.aload_n 0, 1) := by decide +kernel
theorem dX6_init_1 : decode cX6_init 1 = .ok (.invokespecial 3, 3) := by decide +kernel
theorem dX6_init_4 : decode cX6_init 4 = .ok (.aload_n 0, 1) := by decide +kernel
theorem dX6_init_5 : decode cX6_init 5 = .ok (.bipush 10, 2) := by decide +kernel
theorem dX6_init_7 : decode cX6_init 7 = .ok (.newarray .int, 2) := by decide +kernel
theorem dX6_init_9 : decode cX6_init 9 = .ok (.putfield 9, 3) := by decide +kernel
theorem dX6_init_12 : decode cX6_init 12 = .ok (.aload_n 0, 1) := by decide +kernel
theorem dX6_init_13 : decode cX6_init 13 = .ok (.bipush 10, 2) := by decide +kernel
theorem dX6_init_15 : decode cX6_init 15 = .ok (.newarray .int, 2) := by decide +kernel
theorem dX6_init_17 : decode cX6_init 17 = .ok (.putfield 15, 3) := by decide +kernel
theorem dX6_init_20 : decode cX6_init 20 = .ok (.aload_n 0, 1) := by decide +kernel
theorem dX6_init_21 : decode cX6_init 21 = .ok (.bipush 10, 2) := by decide +kernel
theorem dX6_init_23 : decode cX6_init 23 = .ok (.newarray .int, 2) := by decide +kernel
theorem dX6_init_25 : decode cX6_init 25 = .ok (.putfield 18, 3) := by decide +kernel
theorem dX6_init_28 : decode cX6_init 28 = .ok (.aload_n 0, 1) := by decide +kernel
theorem dX6_init_29 : decode cX6_init 29 = .ok (.sipush 200, 3) := by decide +kernel
theorem dX6_init_32 : decode cX6_init 32 = .ok (.newarray .int, 2) := by decide +kernel
theorem dX6_init_34 : decode cX6_init 34 = .ok (.putfield 21, 3) := by decide +kernel
theorem dX6_init_37 : decode cX6_init 37 = .ok (.aload_n 0, 1) := by decide +kernel
theorem dX6_init_38 : decode cX6_init 38 = .ok (.sipush 200, 3) := by decide +kernel
theorem dX6_init_41 : decode cX6_init 41 = .ok (.newarray .int, 2) := by decide +kernel
theorem dX6_init_43 : decode cX6_init 43 = .ok (.putfield 24, 3) := by decide +kernel
theorem dX6_init_46 : decode cX6_init 46 = .ok (.aload_n 0, 1) := by decide +kernel
theorem dX6_init_47 : decode cX6_init 47 = .ok (.sipush 200, 3) := by decide +kernel
theorem dX6_init_50 : decode cX6_init 50 = .ok (.newarray .int, 2) := by decide +kernel
theorem dX6_init_52 : decode cX6_init 52 = .ok (.putfield 27, 3) := by decide +kernel
theorem dX6_init_55 : decode cX6_init 55 = .ok (.aload_n 0, 1) := by decide +kernel
theorem dX6_init_56 : decode cX6_init 56 = .ok (.sipush 200, 3) := by decide +kernel
theorem dX6_init_59 : decode cX6_init 59 = .ok (.newarray .int, 2) := by decide +kernel
theorem dX6_init_61 : decode cX6_init 61 = .ok (.putfield 30, 3) := by decide +kernel
theorem dX6_init_64 : decode cX6_init 64 = .ok (.aload_n 0, 1) := by decide +kernel
theorem dX6_init_65 : decode cX6_init 65 = .ok (.sipush 200, 3) := by decide +kernel
theorem dX6_init_68 : decode cX6_init 68 = .ok (.newarray .int, 2) := by decide +kernel
theorem dX6_init_70 : decode cX6_init 70 = .ok (.putfield 33, 3) := by decide +kernel
theorem dX6_init_73 : decode cX6_init 73 = .ok (.aload_n 0, 1) := by decide +kernel
theorem dX6_init_74 : decode cX6_init 74 = .ok (.bipush 10, 2) := by decide +kernel
theorem dX6_init_76 : decode cX6_init 76 = .ok (.newarray .int, 2) := by decide +kernel
theorem dX6_init_78 : decode cX6_init 78 = .ok (.putfield 36, 3) := by decide +kernel
theorem dX6_init_81 : decode cX6_init 81 = .ok (.aload_n 0, 1) := by decide +kernel
theorem dX6_init_82 : decode cX6_init 82 = .ok (.iconst 0, 1) := by decide +kernel
theorem dX6_init_83 : decode cX6_init 83 = .ok (.putfield 39, 3) := by decide +kernel
theorem dX6_init_86 : decode cX6_init 86 = .ok (.return_, 1) := by decide +kernel
def g_X6_init : Nat → EA := (t_n 43 (t_n 20 (t_n 9 (t_n 4 (t_n 1 (t_l 0 (a_aload 1 0)) (t_l 1 a_objI)) (t_n 5 (t_l 4 (a_aload 1 0)) (t_n 7 (t_l 5 (a_push 2 (.int 10))) (t_l 7 (a_newa 0))))) (t_n 13 (t_n 12 (t_l 9 (a_putf 9 6 0)) (t_l 12 (a_aload 1 0))) (t_n 15 (t_l 13 (a_push 2 (.int 10))) (t_n 17 (t_l 15 (a_newa 0)) (t_l 17 (a_putf 9 6 1)))))) (t_n 29 (t_n 23 (t_n 21 (t_l 20 (a_aload 1 0)) (t_l 21 (a_push 2 (.int 10)))) (t_n 25 (t_l 23 (a_newa 0)) (t_n 28 (t_l 25 (a_putf 9 6 2)) (t_l 28 (a_aload 1 0))))) (t_n 37 (t_n 32 (t_l 29 (a_push 3 (.int 200))) (t_n 34 (t_l 32 (a_newa 0)) (t_l 34 (a_putf 9 6 3)))) (t_n 38 (t_l 37 (a_aload 1 0)) (t_n 41 (t_l 38 (a_push 3 (.int 200))) (t_l 41 (a_newa 0))))))) (t_n 65 (t_n 55 (t_n 47 (t_n 46 (t_l 43 (a_putf 9 6 4)) (t_l 46 (a_aload 1 0))) (t_n 50 (t_l 47 (a_push 3 (.int 200))) (t_n 52 (t_l 50 (a_newa 0)) (t_l 52 (a_putf 9 6 5))))) (t_n 59 (t_n 56 (t_l 55 (a_aload 1 0)) (t_l 56 (a_push 3 (.int 200)))) (t_n 61 (t_l 59 (a_newa 0)) (t_n 64 (t_l 61 (a_putf 9 6 6)) (t_l 64 (a_aload 1 0)))))) (t_n 76 (t_n 70 (t_n 68 (t_l 65 (a_push 3 (.int 200))) (t_l 68 (a_newa 0))) (t_n 73 (t_l 70 (a_putf 9 6 7)) (t_n 74 (t_l 73 (a_aload 1 0)) (t_l 74 (a_push 2 (.int 10)))))) (t_n 82 (t_n 78 (t_l 76 (a_newa 0)) (t_n 81 (t_l 78 (a_putf 9 6 8)) (t_l 81 (a_aload 1 0)))) (t_n 83 (t_l 82 (a_push 1 (.int 0))) (t_n 86 (t_l 83 (a_putf 0 6 9)) (t_l 86 a_vret)))))))
set_option maxRecDepth 100000 in
theorem k_X6_init (sc : Nat × (Nat → Int32)) (d : Nat) : ∀ pc, ev_Ok cX6_init 1 [] RX6 lw_g lw_n (lw_q sc) vwCl true (ev_CO mt lw_g lw_n (lw_q sc) vwCl d) pc (g_X6_init pc) := (ok_t_n (ok_t_n (ok_t_n (ok_t_n (ok_t_n (ok_t_l (ok_aload_n dX6_init_0 rfl)) (ok_t_l (ok_objinit dX6_init_1 w_965 w_94 w_obj ev_CO.small))) (ok_t_n (ok_t_l (ok_aload_n dX6_init_4 rfl)) (ok_t_n (ok_t_l (ok_bipush dX6_init_5 rfl)) (ok_t_l (ok_newint dX6_init_7 w_614))))) (ok_t_n (ok_t_n (ok_t_l (ok_putfieldF dX6_init_9 (ci := 6) (kf := 0) rfl inGX6 (by decide) tyX6_ok nmX6 rfl w_966 rfl rfl rfl)) (ok_t_l (ok_aload_n dX6_init_12 rfl))) (ok_t_n (ok_t_l (ok_bipush dX6_init_13 rfl)) (ok_t_n (ok_t_l (ok_newint dX6_init_15 w_614)) (ok_t_l (ok_putfieldF dX6_init_17 (ci := 6) (kf := 1) rfl inGX6 (by decide) tyX6_ok nmX6 rfl w_967 rfl rfl rfl)))))) (ok_t_n (ok_t_n (ok_t_n (ok_t_l (ok_aload_n dX6_init_20 rfl)) (ok_t_l (ok_bipush dX6_init_21 rfl))) (ok_t_n (ok_t_l (ok_newint dX6_init_23 w_614)) (ok_t_n (ok_t_l (ok_putfieldF dX6_init_25 (ci := 6) (kf := 2) rfl inGX6 (by decide) tyX6_ok nmX6 rfl w_968 rfl rfl rfl)) (ok_t_l (ok_aload_n dX6_init_28 rfl))))) (ok_t_n (ok_t_n (ok_t_l (ok_sipush dX6_init_29 rfl)) (ok_t_n (ok_t_l (ok_newint dX6_init_32 w_614)) (ok_t_l (ok_putfieldF dX6_init_34 (ci := 6) (kf := 3) rfl inGX6 (by decide) tyX6_ok nmX6 rfl w_969 rfl rfl rfl)))) (ok_t_n (ok_t_l (ok_aload_n dX6_init_37 rfl)) (ok_t_n (ok_t_l (ok_sipush dX6_init_38 rfl)) (ok_t_l (ok_newint dX6_init_41 w_614))))))) (ok_t_n (ok_t_n (ok_t_n (ok_t_n (ok_t_l (ok_putfieldF dX6_init_43 (ci := 6) (kf := 4) rfl inGX6 (by decide) tyX6_ok nmX6 rfl w_970 rfl rfl rfl)) (ok_t_l (ok_aload_n dX6_init_46 rfl))) (ok_t_n (ok_t_l (ok_sipush dX6_init_47 rfl)) (ok_t_n (ok_t_l (ok_newint dX6_init_50 w_614)) (ok_t_l (ok_putfieldF dX6_init_52 (ci := 6) (kf := 5) rfl inGX6 (by decide) tyX6_ok nmX6 rfl w_971 rfl rfl rfl))))) (ok_t_n (ok_t_n (ok_t_l (ok_aload_n dX6_init_55 rfl)) (ok_t_l (ok_sipush dX6_init_56 rfl))) (ok_t_n (ok_t_l (ok_newint dX6_init_59 w_614)) (ok_t_n (ok_t_l (ok_putfieldF dX6_init_61 (ci := 6) (kf := 6) rfl inGX6 (by decide) tyX6_ok nmX6 rfl w_972 rfl rfl rfl)) (ok_t_l (ok_aload_n dX6_init_64 rfl)))))) (ok_t_n (ok_t_n (ok_t_n (ok_t_l (ok_sipush dX6_init_65 rfl)) (ok_t_l (ok_newint dX6_init_68 w_614))) (ok_t_n (ok_t_l (ok_putfieldF dX6_init_70 (ci := 6) (kf := 7) rfl inGX6 (by decide) tyX6_ok nmX6 rfl w_973 rfl rfl rfl)) (ok_t_n (ok_t_l (ok_aload_n dX6_init_73 rfl)) (ok_t_l (ok_bipush dX6_init_74 rfl))))) (ok_t_n (ok_t_n (ok_t_l (ok_newint dX6_init_76 w_614)) (ok_t_n (ok_t_l (ok_putfieldF dX6_init_78 (ci := 6) (kf := 8) rfl inGX6 (by decide) tyX6_ok nmX6 rfl w_974 rfl rfl rfl)) (ok_t_l (ok_aload_n dX6_init_81 rfl)))) (ok_t_n (ok_t_l (ok_iconst dX6_init_82 rfl)) (ok_t_n (ok_t_l (ok_putfield dX6_init_83 (ci := 6) (kf := 9) rfl inGX6 (by decide) tyX6_ok nmX6 rfl w_975 rfl)) (ok_t_l (ok_vreturn dX6_init_86))))))))
theorem dX6_count_0 : decode cX6_count 0 = .ok (.aload_n 0, 1) := by decide +kernel
theorem dX6_count_1 : decode cX6_count 1 = .ok (.getfield 39, 3) := by decide +kernel
theorem dX6_count_4 : decode cX6_count 4 = .ok (.ireturn, 1) := by decide +kernel
def g_X6_count : Nat → EA := (t_n 1 (t_l 0 (a_aload 1 0)) (t_n 4 (t_l 1 (a_getf 6 9)) (t_l 4 a_iret)))
set_option maxRecDepth 100000 in
theorem k_X6_count (sc : Nat × (Nat → Int32)) (d : Nat) : ∀ pc, ev_Ok cX6_count 1 [] RX6 lw_g lw_n (lw_q sc) vwCl false (ev_CO mt lw_g lw_n (lw_q sc) vwCl d) pc (g_X6_count pc) := (ok_t_n (ok_t_l (ok_aload_n dX6_count_0 rfl)) (ok_t_n (ok_t_l (ok_getfield dX6_count_1 (ci := 6) (kf := 9) rfl inGX6 (by decide) w_975)) (ok_t_l (ok_ireturn dX6_count_4))))
theorem dX6_isFull_0 : decode cX6_isFull 0 = .ok (.aload_n 0, 1) := by decide +kernel
theorem dX6_isFull_1 : decode cX6_isFull 1 = .ok (.getfield 39, 3) := by decide +kernel
theorem dX6_isFull_4 : decode cX6_isFull 4 = .ok (.bipush 10, 2) := by decide +kernel
theorem dX6_isFull_6 : decode cX6_isFull 6 = .ok (.if_icmp .lt 7, 3) := by decide +kernel
theorem dX6_isFull_9 : decode cX6_isFull 9 = .ok (.iconst 1, 1) := by decide +kernel
theorem dX6_isFull_10 : decode cX6_isFull 10 = .ok (.goto 4, 3) := by decide +kernel
theorem dX6_isFull_13 : decode cX6_isFull 13 = .ok (.iconst 0, 1) := by decide +kernel
theorem dX6_isFull_14 : decode cX6_isFull 14 = .ok (.ireturn, 1) := by decide +kernel
def g_X6_isFull : Nat → EA := (t_n 9 (t_n 4 (t_n 1 (t_l 0 (a_aload 1 0)) (t_l 1 (a_getf 6 9))) (t_n 6 (t_l 4 (a_push 2 (.int 10))) (t_l 6 (a_ic 13 (fun x y => decide (x < y)))))) (t_n 13 (t_n 10 (t_l 9 (a_push 1 (.int 1))) (t_l 10 (a_goto 14))) (t_n 14 (t_l 13 (a_push 1 (.int 0))) (t_l 14 a_iret))))
set_option maxRecDepth 100000 in
theorem k_X6_isFull (sc : Nat × (Nat → Int32)) (d : Nat) : ∀ pc, ev_Ok cX6_isFull 1 [] RX6 lw_g lw_n (lw_q sc) vwCl false (ev_CO mt lw_g lw_n (lw_q sc) vwCl d) pc (g_X6_isFull pc) := (ok_t_n (ok_t_n (ok_t_n (ok_t_l (ok_aload_n dX6_isFull_0 rfl)) (ok_t_l (ok_getfield dX6_isFull_1 (ci := 6) (kf := 9) rfl inGX6 (by decide) w_975))) (ok_t_n (ok_t_l (ok_bipush dX6_isFull_4 rfl)) (ok_t_l (ok_icmp_lt dX6_isFull_6 rfl)))) (ok_t_n (ok_t_n (ok_t_l (ok_iconst dX6_isFull_9 rfl)) (ok_t_l (ok_goto dX6_isFull_10 rfl))) (ok_t_n (ok_t_l (ok_iconst dX6_isFull_13 rfl)) (ok_t_l (ok_ireturn dX6_isFull_14)))))
theorem dX6_has_0 : decode cX6_has 0 = .ok (.iload_n 1, 1) := by decide +kernel
theorem dX6_has_1 : decode cX6_has 1 = .ok (.ifCond .lt 21, 3) := by decide +kernel
theorem dX6_has_4 : decode cX6_has 4 = .ok (.iload_n 1, 1) := by decide +kernel
theorem dX6_has_5 : decode cX6_has 5 = .ok (.aload_n 0, 1) := by decide +kernel
theorem dX6_has_6 : decode cX6_has 6 = .ok (.getfield 39, 3) := by decide +kernel
theorem dX6_has_9 : decode cX6_has 9 = .ok (.if_icmp .ge 13, 3) := by decide +kernel
theorem dX6_has_12 : decode cX6_has 12 = .ok (.iload_n 1, 1) := by decide +kernel
theorem dX6_has_13 : decode cX6_has 13 = .ok (.bipush 10, 2) := by decide +kernel
theorem dX6_has_15 : decode cX6_has 15 = .ok (.if_icmp .ge 7, 3) := by decide +kernel
theorem dX6_has_18 : decode cX6_has 18 = .ok (.iconst 1, 1) := by decide +kernel
theorem dX6_has_19 : decode cX6_has 19 = .ok (.goto 4, 3) := by decide +kernel
theorem dX6_has_22 : decode cX6_has 22 = .ok (.iconst 0, 1) := by decide +kernel
theorem dX6_has_23 : decode cX6_has 23 = .ok (.ireturn, 1) := by decide +kernel
def g_X6_has : Nat → EA := (t_n 12 (t_n 5 (t_n 1 (t_l 0 (a_iload 1 1)) (t_n 4 (t_l 1 (a_if 22 (fun x => decide (x < 0)))) (t_l 4 (a_iload 1 1)))) (t_n 6 (t_l 5 (a_aload 1 0)) (t_n 9 (t_l 6 (a_getf 6 9)) (t_l 9 (a_ic 22 (fun x y => decide (y ≤ x))))))) (t_n 18 (t_n 13 (t_l 12 (a_iload 1 1)) (t_n 15 (t_l 13 (a_push 2 (.int 10))) (t_l 15 (a_ic 22 (fun x y => decide (y ≤ x)))))) (t_n 22 (t_n 19 (t_l 18 (a_push 1 (.int 1))) (t_l 19 (a_goto 23))) (t_n 23 (t_l 22 (a_push 1 (.int 0))) (t_l 23 a_iret)))))
set_option maxRecDepth 100000 in
theorem k_X6_has (sc : Nat × (Nat → Int32)) (d : Nat) : ∀ pc, ev_Ok cX6_has 2 [] RX6 lw_g lw_n (lw_q sc) vwCl false (ev_CO mt lw_g lw_n (lw_q sc) vwCl d) pc (g_X6_has pc) := (ok_t_n (ok_t_n (ok_t_n (ok_t_l (ok_iload_n dX6_has_0 rfl)) (ok_t_n (ok_t_l (ok_if_lt dX6_has_1 rfl)) (ok_t_l (ok_iload_n dX6_has_4 rfl)))) (ok_t_n (ok_t_l (ok_aload_n dX6_has_5 rfl)) (ok_t_n (ok_t_l (ok_getfield dX6_has_6 (ci := 6) (kf := 9) rfl inGX6 (by decide) w_975)) (ok_t_l (ok_icmp_ge dX6_has_9 rfl))))) (ok_t_n (ok_t_n (ok_t_l (ok_iload_n dX6_has_12 rfl)) (ok_t_n (ok_t_l (ok_bipush dX6_has_13 rfl)) (ok_t_l (ok_icmp_ge dX6_has_15 rfl)))) (ok_t_n (ok_t_n (ok_t_l (ok_iconst dX6_has_18 rfl)) (ok_t_l (ok_goto dX6_has_19 rfl))) (ok_t_n (ok_t_l (ok_iconst dX6_has_22 rfl)) (ok_t_l (ok_ireturn dX6_has_23))))))
theorem dX6_hasAll_0 : decode cX6_hasAll 0 = .ok (.iload_n 1, 1) := by decide +kernel
theorem dX6_hasAll_1 : decode cX6_hasAll 1 = .ok (.aload_n 0, 1) := by decide +kernel
theorem dX6_hasAll_2 : decode cX6_hasAll 2 = .ok (.getfield 39, 3) := by decide +kernel
theorem dX6_hasAll_5 : decode cX6_hasAll 5 = .ok (.ishr, 1) := by decide +kernel
theorem dX6_hasAll_6 : decode cX6_hasAll 6 = .ok (.ifCond .ne 7, 3) := by decide +kernel
theorem dX6_hasAll_9 : decode cX6_hasAll 9 = .ok (.iconst 1, 1) := by decide +kernel
theorem dX6_hasAll_10 : decode cX6_hasAll 10 = .ok (.goto 4, 3) := by decide +kernel
theorem dX6_hasAll_13 : decode cX6_hasAll 13 = .ok (.iconst 0, 1) := by decide +kernel
theorem dX6_hasAll_14 : decode cX6_hasAll 14 = .ok (.ireturn, 1) := by decide +kernel
def g_X6_hasAll : Nat → EA := (t_n 6 (t_n 2 (t_n 1 (t_l 0 (a_iload 1 1)) (t_l 1 (a_aload 1 0))) (t_n 5 (t_l 2 (a_getf 6 9)) (t_l 5 (a_ii 1 (fun x y => x >>> (y &&& 31)))))) (t_n 10 (t_n 9 (t_l 6 (a_if 13 (fun x => !decide (x = 0)))) (t_l 9 (a_push 1 (.int 1)))) (t_n 13 (t_l 10 (a_goto 14)) (t_n 14 (t_l 13 (a_push 1 (.int 0))) (t_l 14 a_iret)))))
set_option maxRecDepth 100000 in
theorem k_X6_hasAll (sc : Nat × (Nat → Int32)) (d : Nat) : ∀ pc, ev_Ok cX6_hasAll 2 [] RX6 lw_g lw_n (lw_q sc) vwCl false (ev_CO mt lw_g lw_n (lw_q sc) vwCl d) pc (g_X6_hasAll pc) := (ok_t_n (ok_t_n (ok_t_n (ok_t_l (ok_iload_n dX6_hasAll_0 rfl)) (ok_t_l (ok_aload_n dX6_hasAll_1 rfl))) (ok_t_n (ok_t_l (ok_getfield dX6_hasAll_2 (ci := 6) (kf := 9) rfl inGX6 (by decide) w_975)) (ok_t_l (ok_ishr dX6_hasAll_5)))) (ok_t_n (ok_t_n (ok_t_l (ok_if_ne dX6_hasAll_6 rfl)) (ok_t_l (ok_iconst dX6_hasAll_9 rfl))) (ok_t_n (ok_t_l (ok_goto dX6_hasAll_10 rfl)) (ok_t_n (ok_t_l (ok_iconst dX6_hasAll_13 rfl)) (ok_t_l (ok_ireturn dX6_hasAll_14))))))
theorem dX6_add_0 : decode cX6_add 0 = .ok (.aload_n 0, 1) := by decide +kernel
theorem dX6_add_1 : decode cX6_add 1 = .ok (.getfield 39, 3) := by decide +kernel
theorem dX6_add_4 : decode cX6_add 4 = .ok (.istore_n 1, 1) := by decide +kernel
theorem dX6_add_5 : decode cX6_add 5 = .ok (.aload_n 0, 1) := by decide +kernel
theorem dX6_add_6 : decode cX6_add 6 = .ok (.dup, 1) := by decide +kernel
theorem dX6_add_7 : decode cX6_add 7 = .ok (.getfield 39, 3) := by decide +kernel
theorem dX6_add_10 : decode cX6_add 10 = .ok (.iconst 1, 1) := by decide +kernel
theorem dX6_add_11 : decode cX6_add 11 = .ok (.iadd, 1) := by decide +kernel
theorem dX6_add_12 : decode cX6_add 12 = .ok (.putfield 39, 3) := by decide +kernel
theorem dX6_add_15 : decode cX6_add 15 = .ok (.iload_n 1, 1) := by decide +kernel
theorem dX6_add_16 : decode cX6_add 16 = .ok (.ireturn, 1) := by decide +kernel
def g_X6_add : Nat → EA := (t_n 7 (t_n 4 (t_n 1 (t_l 0 (a_aload 1 0)) (t_l 1 (a_getf 6 9))) (t_n 5 (t_l 4 (a_istore 2 1 1)) (t_n 6 (t_l 5 (a_aload 1 0)) (t_l 6 a_dup)))) (t_n 12 (t_n 10 (t_l 7 (a_getf 6 9)) (t_n 11 (t_l 10 (a_push 1 (.int 1))) (t_l 11 (a_ii 1 (fun x y => x + y))))) (t_n 15 (t_l 12 (a_putf 0 6 9)) (t_n 16 (t_l 15 (a_iload 1 1)) (t_l 16 a_iret)))))
set_option maxRecDepth 100000 in
theorem k_X6_add (sc : Nat × (Nat → Int32)) (d : Nat) : ∀ pc, ev_Ok cX6_add 2 [] RX6 lw_g lw_n (lw_q sc) vwCl false (ev_CO mt lw_g lw_n (lw_q sc) vwCl d) pc (g_X6_add pc) := (ok_t_n (ok_t_n (ok_t_n (ok_t_l (ok_aload_n dX6_add_0 rfl)) (ok_t_l (ok_getfield dX6_add_1 (ci := 6) (kf := 9) rfl inGX6 (by decide) w_975))) (ok_t_n (ok_t_l (ok_istore_n dX6_add_4 rfl)) (ok_t_n (ok_t_l (ok_aload_n dX6_add_5 rfl)) (ok_t_l (ok_dup dX6_add_6))))) (ok_t_n (ok_t_n (ok_t_l (ok_getfield dX6_add_7 (ci := 6) (kf := 9) rfl inGX6 (by decide) w_975)) (ok_t_n (ok_t_l (ok_iconst dX6_add_10 rfl)) (ok_t_l (ok_iadd dX6_add_11)))) (ok_t_n (ok_t_l (ok_putfield dX6_add_12 (ci := 6) (kf := 9) rfl inGX6 (by decide) tyX6_ok nmX6 rfl w_975 rfl)) (ok_t_n (ok_t_l (ok_iload_n dX6_add_15 rfl)) (ok_t_l (ok_ireturn dX6_add_16))))))
theorem dX6_defined_0 : decode cX6_defined 0 = .ok (.iload_n 1, 1) := by decide +kernel
theorem dX6_defined_1 : decode cX6_defined 1 = .ok (.ifCond .lt 18, 3) := by decide +kernel
theorem dX6_defined_4 : decode cX6_defined 4 = .ok (.iload_n 1, 1) := by decide +kernel
theorem dX6_defined_5 : decode cX6_defined 5 = .ok (.bipush 10, 2) := by decide +kernel
theorem dX6_defined_7 : decode cX6_defined 7 = .ok (.if_icmp .ge 12, 3) := by decide +kernel
theorem dX6_defined_10 : decode cX6_defined 10 = .ok (.aload_n 0, 1) := by decide +kernel
theorem dX6_defined_11 : decode cX6_defined 11 = .ok (.getfield 9, 3) := by decide +kernel
theorem dX6_defined_14 : decode cX6_defined 14 = .ok (.iload_n 1, 1) := by decide +kernel
theorem dX6_defined_15 : decode cX6_defined 15 = .ok (.iaload, 1) := by decide +kernel
theorem dX6_defined_16 : decode cX6_defined 16 = .ok (.goto 4, 3) := by decide +kernel
theorem dX6_defined_19 : decode cX6_defined 19 = .ok (.iconst 0, 1) := by decide +kernel
theorem dX6_defined_20 : decode cX6_defined 20 = .ok (.ireturn, 1) := by decide +kernel
def g_X6_defined : Nat → EA := (t_n 11 (t_n 5 (t_n 1 (t_l 0 (a_iload 1 1)) (t_n 4 (t_l 1 (a_if 19 (fun x => decide (x < 0)))) (t_l 4 (a_iload 1 1)))) (t_n 7 (t_l 5 (a_push 2 (.int 10))) (t_n 10 (t_l 7 (a_ic 19 (fun x y => decide (y ≤ x)))) (t_l 10 (a_aload 1 0))))) (t_n 16 (t_n 14 (t_l 11 (a_getf 6 0)) (t_n 15 (t_l 14 (a_iload 1 1)) (t_l 15 (a_ild 0)))) (t_n 19 (t_l 16 (a_goto 20)) (t_n 20 (t_l 19 (a_push 1 (.int 0))) (t_l 20 a_iret)))))
set_option maxRecDepth 100000 in
theorem k_X6_defined (sc : Nat × (Nat → Int32)) (d : Nat) : ∀ pc, ev_Ok cX6_defined 2 [] RX6 lw_g lw_n (lw_q sc) vwCl false (ev_CO mt lw_g lw_n (lw_q sc) vwCl d) pc (g_X6_defined pc) := (ok_t_n (ok_t_n (ok_t_n (ok_t_l (ok_iload_n dX6_defined_0 rfl)) (ok_t_n (ok_t_l (ok_if_lt dX6_defined_1 rfl)) (ok_t_l (ok_iload_n dX6_defined_4 rfl)))) (ok_t_n (ok_t_l (ok_bipush dX6_defined_5 rfl)) (ok_t_n (ok_t_l (ok_icmp_ge dX6_defined_7 rfl)) (ok_t_l (ok_aload_n dX6_defined_10 rfl))))) (ok_t_n (ok_t_n (ok_t_l (ok_getfield dX6_defined_11 (ci := 6) (kf := 0) rfl inGX6 (by decide) w_966)) (ok_t_n (ok_t_l (ok_iload_n dX6_defined_14 rfl)) (ok_t_l (ok_iaload dX6_defined_15)))) (ok_t_n (ok_t_l (ok_goto dX6_defined_16 rfl)) (ok_t_n (ok_t_l (ok_iconst dX6_defined_19 rfl)) (ok_t_l (ok_ireturn dX6_defined_20))))))
theorem dX6_offered_0 : decode cX6_offered 0 = .ok (.iload_n 1, 1) := by decide +kernel
theorem dX6_offered_1 : decode cX6_offered 1 = .ok (.ifCond .lt 18, 3) := by decide +kernel
theorem dX6_offered_4 : decode cX6_offered 4 = .ok (.iload_n 1, 1) := by decide +kernel
theorem dX6_offered_5 : decode cX6_offered 5 = .ok (.bipush 10, 2) := by decide +kernel
theorem dX6_offered_7 : decode cX6_offered 7 = .ok (.if_icmp .ge 12, 3) := by decide +kernel
theorem dX6_offered_10 : decode cX6_offered 10 = .ok (.aload_n 0, 1) := by decide +kernel
theorem dX6_offered_11 : decode cX6_offered 11 = .ok (.getfield 15, 3) := by decide +kernel
theorem dX6_offered_14 : decode cX6_offered 14 = .ok (.iload_n 1, 1) := by decide +kernel
theorem dX6_offered_15 : decode cX6_offered 15 = .ok (.iaload, 1) := by decide +kernel
theorem dX6_offered_16 : decode cX6_offered 16 = .ok (.goto 4, 3) := by decide +kernel
theorem dX6_offered_19 : decode cX6_offered 19 = .ok (.iconst 0, 1) := by decide +kernel
theorem dX6_offered_20 : decode cX6_offered 20 = .ok (.ireturn, 1) := by decide +kernel
def g_X6_offered : Nat → EA := (t_n 11 (t_n 5 (t_n 1 (t_l 0 (a_iload 1 1)) (t_n 4 (t_l 1 (a_if 19 (fun x => decide (x < 0)))) (t_l 4 (a_iload 1 1)))) (t_n 7 (t_l 5 (a_push 2 (.int 10))) (t_n 10 (t_l 7 (a_ic 19 (fun x y => decide (y ≤ x)))) (t_l 10 (a_aload 1 0))))) (t_n 16 (t_n 14 (t_l 11 (a_getf 6 1)) (t_n 15 (t_l 14 (a_iload 1 1)) (t_l 15 (a_ild 0)))) (t_n 19 (t_l 16 (a_goto 20)) (t_n 20 (t_l 19 (a_push 1 (.int 0))) (t_l 20 a_iret)))))
set_option maxRecDepth 100000 in
theorem k_X6_offered (sc : Nat × (Nat → Int32)) (d : Nat) : ∀ pc, ev_Ok cX6_offered 2 [] RX6 lw_g lw_n (lw_q sc) vwCl false (ev_CO mt lw_g lw_n (lw_q sc) vwCl d) pc (g_X6_offered pc) := (ok_t_n (ok_t_n (ok_t_n (ok_t_l (ok_iload_n dX6_offered_0 rfl)) (ok_t_n (ok_t_l (ok_if_lt dX6_offered_1 rfl)) (ok_t_l (ok_iload_n dX6_offered_4 rfl)))) (ok_t_n (ok_t_l (ok_bipush dX6_offered_5 rfl)) (ok_t_n (ok_t_l (ok_icmp_ge dX6_offered_7 rfl)) (ok_t_l (ok_aload_n dX6_offered_10 rfl))))) (ok_t_n (ok_t_n (ok_t_l (ok_getfield dX6_offered_11 (ci := 6) (kf := 1) rfl inGX6 (by decide) w_967)) (ok_t_n (ok_t_l (ok_iload_n dX6_offered_14 rfl)) (ok_t_l (ok_iaload dX6_offered_15)))) (ok_t_n (ok_t_l (ok_goto dX6_offered_16 rfl)) (ok_t_n (ok_t_l (ok_iconst dX6_offered_19 rfl)) (ok_t_l (ok_ireturn dX6_offered_20))))))
theorem dX6_needed_0 : decode cX6_needed 0 = .ok (.iload_n 1, 1) := by decide +kernel
theorem dX6_needed_1 : decode cX6_needed 1 = .ok (.ifCond .lt 18, 3) := by decide +kernel
theorem dX6_needed_4 : decode cX6_needed 4 = .ok (.iload_n 1, 1) := by decide +kernel
theorem dX6_needed_5 : decode cX6_needed 5 = .ok (.bipush 10, 2) := by decide +kernel
theorem dX6_needed_7 : decode cX6_needed 7 = .ok (.if_icmp .ge 12, 3) := by decide +kernel
theorem dX6_needed_10 : decode cX6_needed 10 = .ok (.aload_n 0, 1) := by decide +kernel
theorem dX6_needed_11 : decode cX6_needed 11 = .ok (.getfield 18, 3) := by decide +kernel
theorem dX6_needed_14 : decode cX6_needed 14 = .ok (.iload_n 1, 1) := by decide +kernel
theorem dX6_needed_15 : decode cX6_needed 15 = .ok (.iaload, 1) := by decide +kernel
theorem dX6_needed_16 : decode cX6_needed 16 = .ok (.goto 4, 3) := by decide +kernel
theorem dX6_needed_19 : decode cX6_needed 19 = .ok (.iconst 0, 1) := by decide +kernel
theorem dX6_needed_20 : decode cX6_needed 20 = .ok (.ireturn, 1) := by decide +kernel
def g_X6_needed : Nat → EA := (t_n 11 (t_n 5 (t_n 1 (t_l 0 (a_iload 1 1)) (t_n 4 (t_l 1 (a_if 19 (fun x => decide (x < 0)))) (t_l 4 (a_iload 1 1)))) (t_n 7 (t_l 5 (a_push 2 (.int 10))) (t_n 10 (t_l 7 (a_ic 19 (fun x y => decide (y ≤ x)))) (t_l 10 (a_aload 1 0))))) (t_n 16 (t_n 14 (t_l 11 (a_getf 6 2)) (t_n 15 (t_l 14 (a_iload 1 1)) (t_l 15 (a_ild 0)))) (t_n 19 (t_l 16 (a_goto 20)) (t_n 20 (t_l 19 (a_push 1 (.int 0))) (t_l 20 a_iret)))))
set_option maxRecDepth 100000 in
theorem k_X6_needed (sc : Nat × (Nat → Int32)) (d : Nat) : ∀ pc, ev_Ok cX6_needed 2 [] RX6 lw_g lw_n (lw_q sc) vwCl false (ev_CO mt lw_g lw_n (lw_q sc) vwCl d) pc (g_X6_needed pc) := (ok_t_n (ok_t_n (ok_t_n (ok_t_l (ok_iload_n dX6_needed_0 rfl)) (ok_t_n (ok_t_l (ok_if_lt dX6_needed_1 rfl)) (ok_t_l (ok_iload_n dX6_needed_4 rfl)))) (ok_t_n (ok_t_l (ok_bipush dX6_needed_5 rfl)) (ok_t_n (ok_t_l (ok_icmp_ge dX6_needed_7 rfl)) (ok_t_l (ok_aload_n dX6_needed_10 rfl))))) (ok_t_n (ok_t_n (ok_t_l (ok_getfield dX6_needed_11 (ci := 6) (kf := 2) rfl inGX6 (by decide) w_968)) (ok_t_n (ok_t_l (ok_iload_n dX6_needed_14 rfl)) (ok_t_l (ok_iaload dX6_needed_15)))) (ok_t_n (ok_t_l (ok_goto dX6_needed_16 rfl)) (ok_t_n (ok_t_l (ok_iconst dX6_needed_19 rfl)) (ok_t_l (ok_ireturn dX6_needed_20))))))
theorem dX6_need_0 : decode cX6_need 0 = .ok (.aload_n 0, 1) := by decide +kernel
theorem dX6_need_1 : decode cX6_need 1 = .ok (.iload_n 1, 1) := by decide +kernel
theorem dX6_need_2 : decode cX6_need 2 = .ok (.invokevirtual 43, 3) := by decide +kernel
theorem dX6_need_5 : decode cX6_need 5 = .ok (.ifCond .eq 15, 3) := by decide +kernel
theorem dX6_need_8 : decode cX6_need 8 = .ok (.aload_n 0, 1) := by decide +kernel
theorem dX6_need_9 : decode cX6_need 9 = .ok (.getfield 18, 3) := by decide +kernel
theorem dX6_need_12 : decode cX6_need 12 = .ok (.iload_n 1, 1) := by decide +kernel
theorem dX6_need_13 : decode cX6_need 13 = .ok (.dup2, 1) := by decide +kernel
theorem dX6_need_14 : decode cX6_need 14 = .ok (.iaload, 1) := by decide +kernel
theorem dX6_need_15 : decode cX6_need 15 = .ok (.iconst 1, 1) := by decide +kernel
theorem dX6_need_16 : decode cX6_need 16 = .ok (.iload_n 2, 1) := by decide +kernel
theorem dX6_need_17 : decode cX6_need 17 = .ok (.ishl, 1) := by decide +kernel
theorem dX6_need_18 : decode cX6_need 18 = .ok (.ior, 1) := by decide +kernel
theorem dX6_need_19 : decode cX6_need 19 = .ok (.iastore, 1) := by decide +kernel
theorem dX6_need_20 : decode cX6_need 20 = .ok (.return_, 1) := by decide +kernel
def g_X6_need : Nat → EA := (t_n 13 (t_n 5 (t_n 1 (t_l 0 (a_aload 1 0)) (t_n 2 (t_l 1 (a_iload 1 1)) (t_l 2 (a_inv true 88 2 (some 6))))) (t_n 9 (t_n 8 (t_l 5 (a_if 20 (fun x => decide (x = 0)))) (t_l 8 (a_aload 1 0))) (t_n 12 (t_l 9 (a_getf 6 2)) (t_l 12 (a_iload 1 1))))) (t_n 17 (t_n 15 (t_n 14 (t_l 13 a_dup2) (t_l 14 (a_ild 0))) (t_n 16 (t_l 15 (a_push 1 (.int 1))) (t_l 16 (a_iload 1 2)))) (t_n 19 (t_n 18 (t_l 17 (a_ii 1 (fun x y => x <<< (y &&& 31)))) (t_l 18 (a_ii 1 (fun x y => x ||| y)))) (t_n 20 (t_l 19 (a_ist 0)) (t_l 20 a_vret)))))
set_option maxRecDepth 100000 in
theorem k_X6_need (sc : Nat × (Nat → Int32)) (d : Nat) : ∀ pc, ev_Ok cX6_need 3 [] RX6 lw_g lw_n (lw_q sc) vwCl false (ev_CO mt lw_g lw_n (lw_q sc) vwCl d) pc (g_X6_need pc) := (ok_t_n (ok_t_n (ok_t_n (ok_t_l (ok_aload_n dX6_need_0 rfl)) (ok_t_n (ok_t_l (ok_iload_n dX6_need_1 rfl)) (ok_t_l (ok_inv (run_V (y := 88) (n := 1) (ci := 6) dX6_need_2 cz_88 gdG cc_88 ci_88 w_207 cm_88 cs_88 cd_88 cl_88 rfl rfl))))) (ok_t_n (ok_t_n (ok_t_l (ok_if_eq dX6_need_5 rfl)) (ok_t_l (ok_aload_n dX6_need_8 rfl))) (ok_t_n (ok_t_l (ok_getfield dX6_need_9 (ci := 6) (kf := 2) rfl inGX6 (by decide) w_968)) (ok_t_l (ok_iload_n dX6_need_12 rfl))))) (ok_t_n (ok_t_n (ok_t_n (ok_t_l (ok_dup2 dX6_need_13)) (ok_t_l (ok_iaload dX6_need_14))) (ok_t_n (ok_t_l (ok_iconst dX6_need_15 rfl)) (ok_t_l (ok_iload_n dX6_need_16 rfl)))) (ok_t_n (ok_t_n (ok_t_l (ok_ishl dX6_need_17)) (ok_t_l (ok_ior dX6_need_18))) (ok_t_n (ok_t_l (ok_iastore dX6_need_19)) (ok_t_l (ok_vreturn dX6_need_20))))))
theorem dX6_addDefinition_0 : decode cX6_addDefinition 0 = .ok (.aload_n 0, 1) := by decide +kernel
theorem dX6_addDefinition_1 : decode cX6_addDefinition 1 = .ok (.iload_n 1, 1) := by decide +kernel
theorem dX6_addDefinition_2 : decode cX6_addDefinition 2 = .ok (.invokevirtual 43, 3) := by decide +kernel
theorem dX6_addDefinition_5 : decode cX6_addDefinition 5 = .ok (.ifCond .eq 10, 3) := by decide +kernel
theorem dX6_addDefinition_8 : decode cX6_addDefinition 8 = .ok (.iload_n 2, 1) := by decide +kernel
theorem dX6_addDefinition_9 : decode cX6_addDefinition 9 = .ok (.invokestatic 47, 3) := by decide +kernel
theorem dX6_addDefinition_12 : decode cX6_addDefinition 12 = .ok (.ifCond .ne 4, 3) := by decide +kernel
theorem dX6_addDefinition_15 : decode cX6_addDefinition 15 = .ok (.return_, 1) := by decide +kernel
theorem dX6_addDefinition_16 : decode cX6_addDefinition 16 = .ok (.iload_n 1, 1) := by decide +kernel
theorem dX6_addDefinition_17 : decode cX6_addDefinition 17 = .ok (.bipush 20, 2) := by decide +kernel
theorem dX6_addDefinition_19 : decode cX6_addDefinition 19 = .ok (.imul, 1) := by decide +kernel
theorem dX6_addDefinition_20 : decode cX6_addDefinition 20 = .ok (.iload_n 2, 1) := by decide +kernel
theorem dX6_addDefinition_21 : decode cX6_addDefinition 21 = .ok (.iadd, 1) := by decide +kernel
theorem dX6_addDefinition_22 : decode cX6_addDefinition 22 = .ok (.istore 6, 2) := by decide +kernel
theorem dX6_addDefinition_24 : decode cX6_addDefinition 24 = .ok (.aload_n 0, 1) := by decide +kernel
theorem dX6_addDefinition_25 : decode cX6_addDefinition 25 = .ok (.getfield 21, 3) := by decide +kernel
theorem dX6_addDefinition_28 : decode cX6_addDefinition 28 = .ok (.iload 6, 2) := by decide +kernel
theorem dX6_addDefinition_30 : decode cX6_addDefinition 30 = .ok (.iload_n 3, 1) := by decide +kernel
theorem dX6_addDefinition_31 : decode cX6_addDefinition 31 = .ok (.iastore, 1) := by decide +kernel
theorem dX6_addDefinition_32 : decode cX6_addDefinition 32 = .ok (.aload_n 0, 1) := by decide +kernel
theorem dX6_addDefinition_33 : decode cX6_addDefinition 33 = .ok (.getfield 24, 3) := by decide +kernel
theorem dX6_addDefinition_36 : decode cX6_addDefinition 36 = .ok (.iload 6, 2) := by decide +kernel
theorem dX6_addDefinition_38 : decode cX6_addDefinition 38 = .ok (.iload 4, 2) := by decide +kernel
theorem dX6_addDefinition_40 : decode cX6_addDefinition 40 = .ok (.iastore, 1) := by decide +kernel
theorem dX6_addDefinition_41 : decode cX6_addDefinition 41 = .ok (.aload_n 0, 1) := by decide +kernel
theorem dX6_addDefinition_42 : decode cX6_addDefinition 42 = .ok (.getfield 27, 3) := by decide +kernel
theorem dX6_addDefinition_45 : decode cX6_addDefinition 45 = .ok (.iload 6, 2) := by decide +kernel
theorem dX6_addDefinition_47 : decode cX6_addDefinition 47 = .ok (.iload 5, 2) := by decide +kernel
theorem dX6_addDefinition_49 : decode cX6_addDefinition 49 = .ok (.iastore, 1) := by decide +kernel
theorem dX6_addDefinition_50 : decode cX6_addDefinition 50 = .ok (.aload_n 0, 1) := by decide +kernel
theorem dX6_addDefinition_51 : decode cX6_addDefinition 51 = .ok (.getfield 9, 3) := by decide +kernel
theorem dX6_addDefinition_54 : decode cX6_addDefinition 54 = .ok (.iload_n 1, 1) := by decide +kernel
theorem dX6_addDefinition_55 : decode cX6_addDefinition 55 = .ok (.dup2, 1) := by decide +kernel
theorem dX6_addDefinition_56 : decode cX6_addDefinition 56 = .ok (.iaload, 1) := by decide +kernel
theorem dX6_addDefinition_57 : decode cX6_addDefinition 57 = .ok (.iconst 1, 1) := by decide +kernel
theorem dX6_addDefinition_58 : decode cX6_addDefinition 58 = .ok (.iload_n 2, 1) := by decide +kernel
theorem dX6_addDefinition_59 : decode cX6_addDefinition 59 = .ok (.ishl, 1) := by decide +kernel
theorem dX6_addDefinition_60 : decode cX6_addDefinition 60 = .ok (.ior, 1) := by decide +kernel
theorem dX6_addDefinition_61 : decode cX6_addDefinition 61 = .ok (.iastore, 1) := by decide +kernel
theorem dX6_addDefinition_62 : decode cX6_addDefinition 62 = .ok (.iload_n 3, 1) := by decide +kernel
theorem dX6_addDefinition_63 : decode cX6_addDefinition 63 = .ok (.iconst 2, 1) := by decide +kernel
theorem dX6_addDefinition_64 : decode cX6_addDefinition 64 = .ok (.if_icmp .eq 15, 3) := by decide +kernel
theorem dX6_addDefinition_67 : decode cX6_addDefinition 67 = .ok (.aload_n 0, 1) := by decide +kernel
theorem dX6_addDefinition_68 : decode cX6_addDefinition 68 = .ok (.getfield 15, 3) := by decide +kernel
theorem dX6_addDefinition_71 : decode cX6_addDefinition 71 = .ok (.iload_n 1, 1) := by decide +kernel
theorem dX6_addDefinition_72 : decode cX6_addDefinition 72 = .ok (.dup2, 1) := by decide +kernel
theorem dX6_addDefinition_73 : decode cX6_addDefinition 73 = .ok (.iaload, 1) := by decide +kernel
theorem dX6_addDefinition_74 : decode cX6_addDefinition 74 = .ok (.iconst 1, 1) := by decide +kernel
theorem dX6_addDefinition_75 : decode cX6_addDefinition 75 = .ok (.iload_n 2, 1) := by decide +kernel
theorem dX6_addDefinition_76 : decode cX6_addDefinition 76 = .ok (.ishl, 1) := by decide +kernel
theorem dX6_addDefinition_77 : decode cX6_addDefinition 77 = .ok (.ior, 1) := by decide +kernel
theorem dX6_addDefinition_78 : decode cX6_addDefinition 78 = .ok (.iastore, 1) := by decide +kernel
theorem dX6_addDefinition_79 : decode cX6_addDefinition 79 = .ok (.return_, 1) := by decide +kernel
def g_X6_addDefinition : Nat → EA := (t_n 45 (t_n 22 (t_n 12 (t_n 5 (t_n 1 (t_l 0 (a_aload 1 0)) (t_n 2 (t_l 1 (a_iload 1 1)) (t_l 2 (a_inv true 88 2 (some 6))))) (t_n 8 (t_l 5 (a_if 15 (fun x => decide (x = 0)))) (t_n 9 (t_l 8 (a_iload 1 2)) (t_l 9 (a_inv false 193 1 none))))) (t_n 17 (t_n 15 (t_l 12 (a_if 16 (fun x => !decide (x = 0)))) (t_n 16 (t_l 15 a_vret) (t_l 16 (a_iload 1 1)))) (t_n 20 (t_n 19 (t_l 17 (a_push 2 (.int 20))) (t_l 19 (a_ii 1 (fun x y => x * y)))) (t_n 21 (t_l 20 (a_iload 1 2)) (t_l 21 (a_ii 1 (fun x y => x + y))))))) (t_n 32 (t_n 28 (t_n 24 (t_l 22 (a_istore 7 2 6)) (t_n 25 (t_l 24 (a_aload 1 0)) (t_l 25 (a_getf 6 3)))) (t_n 30 (t_l 28 (a_iload 2 6)) (t_n 31 (t_l 30 (a_iload 1 3)) (t_l 31 (a_ist 0))))) (t_n 38 (t_n 33 (t_l 32 (a_aload 1 0)) (t_n 36 (t_l 33 (a_getf 6 4)) (t_l 36 (a_iload 2 6)))) (t_n 41 (t_n 40 (t_l 38 (a_iload 2 4)) (t_l 40 (a_ist 0))) (t_n 42 (t_l 41 (a_aload 1 0)) (t_l 42 (a_getf 6 5))))))) (t_n 62 (t_n 55 (t_n 50 (t_n 47 (t_l 45 (a_iload 2 6)) (t_n 49 (t_l 47 (a_iload 2 5)) (t_l 49 (a_ist 0)))) (t_n 51 (t_l 50 (a_aload 1 0)) (t_n 54 (t_l 51 (a_getf 6 0)) (t_l 54 (a_iload 1 1))))) (t_n 58 (t_n 56 (t_l 55 a_dup2) (t_n 57 (t_l 56 (a_ild 0)) (t_l 57 (a_push 1 (.int 1))))) (t_n 60 (t_n 59 (t_l 58 (a_iload 1 2)) (t_l 59 (a_ii 1 (fun x y => x <<< (y &&& 31))))) (t_n 61 (t_l 60 (a_ii 1 (fun x y => x ||| y))) (t_l 61 (a_ist 0)))))) (t_n 73 (t_n 67 (t_n 63 (t_l 62 (a_iload 1 3)) (t_n 64 (t_l 63 (a_push 1 (.int 2))) (t_l 64 (a_ic 79 (fun x y => decide (x = y)))))) (t_n 71 (t_n 68 (t_l 67 (a_aload 1 0)) (t_l 68 (a_getf 6 1))) (t_n 72 (t_l 71 (a_iload 1 1)) (t_l 72 a_dup2)))) (t_n 76 (t_n 74 (t_l 73 (a_ild 0)) (t_n 75 (t_l 74 (a_push 1 (.int 1))) (t_l 75 (a_iload 1 2)))) (t_n 78 (t_n 77 (t_l 76 (a_ii 1 (fun x y => x <<< (y &&& 31)))) (t_l 77 (a_ii 1 (fun x y => x ||| y)))) (t_n 79 (t_l 78 (a_ist 0)) (t_l 79 a_vret)))))))
set_option maxRecDepth 100000 in
theorem k_X6_addDefinition (sc : Nat × (Nat → Int32)) (d : Nat) : ∀ pc, ev_Ok cX6_addDefinition 7 [] RX6 lw_g lw_n (lw_q sc) vwCl false (ev_CO mt lw_g lw_n (lw_q sc) vwCl d) pc (g_X6_addDefinition pc) := (ok_t_n (ok_t_n (ok_t_n (ok_t_n (ok_t_n (ok_t_l (ok_aload_n dX6_addDefinition_0 rfl)) (ok_t_n (ok_t_l (ok_iload_n dX6_addDefinition_1 rfl)) (ok_t_l (ok_inv (run_V (y := 88) (n := 1) (ci := 6) dX6_addDefinition_2 cz_88 gdG cc_88 ci_88 w_207 cm_88 cs_88 cd_88 cl_88 rfl rfl))))) (ok_t_n (ok_t_l (ok_if_eq dX6_addDefinition_5 rfl)) (ok_t_n (ok_t_l (ok_iload_n dX6_addDefinition_8 rfl)) (ok_t_l (ok_inv (run_SN (y := 193) (n := 1) dX6_addDefinition_9 cz_193 gdG cc_193 ci_193 nst_0 cm_193 cd_193 cl_193)))))) (ok_t_n (ok_t_n (ok_t_l (ok_if_ne dX6_addDefinition_12 rfl)) (ok_t_n (ok_t_l (ok_vreturn dX6_addDefinition_15)) (ok_t_l (ok_iload_n dX6_addDefinition_16 rfl)))) (ok_t_n (ok_t_n (ok_t_l (ok_bipush dX6_addDefinition_17 rfl)) (ok_t_l (ok_imul dX6_addDefinition_19))) (ok_t_n (ok_t_l (ok_iload_n dX6_addDefinition_20 rfl)) (ok_t_l (ok_iadd dX6_addDefinition_21)))))) (ok_t_n (ok_t_n (ok_t_n (ok_t_l (ok_istore dX6_addDefinition_22)) (ok_t_n (ok_t_l (ok_aload_n dX6_addDefinition_24 rfl)) (ok_t_l (ok_getfield dX6_addDefinition_25 (ci := 6) (kf := 3) rfl inGX6 (by decide) w_969)))) (ok_t_n (ok_t_l (ok_iload dX6_addDefinition_28)) (ok_t_n (ok_t_l (ok_iload_n dX6_addDefinition_30 rfl)) (ok_t_l (ok_iastore dX6_addDefinition_31))))) (ok_t_n (ok_t_n (ok_t_l (ok_aload_n dX6_addDefinition_32 rfl)) (ok_t_n (ok_t_l (ok_getfield dX6_addDefinition_33 (ci := 6) (kf := 4) rfl inGX6 (by decide) w_970)) (ok_t_l (ok_iload dX6_addDefinition_36)))) (ok_t_n (ok_t_n (ok_t_l (ok_iload dX6_addDefinition_38)) (ok_t_l (ok_iastore dX6_addDefinition_40))) (ok_t_n (ok_t_l (ok_aload_n dX6_addDefinition_41 rfl)) (ok_t_l (ok_getfield dX6_addDefinition_42 (ci := 6) (kf := 5) rfl inGX6 (by decide) w_971))))))) (ok_t_n (ok_t_n (ok_t_n (ok_t_n (ok_t_l (ok_iload dX6_addDefinition_45)) (ok_t_n (ok_t_l (ok_iload dX6_addDefinition_47)) (ok_t_l (ok_iastore dX6_addDefinition_49)))) (ok_t_n (ok_t_l (ok_aload_n dX6_addDefinition_50 rfl)) (ok_t_n (ok_t_l (ok_getfield dX6_addDefinition_51 (ci := 6) (kf := 0) rfl inGX6 (by decide) w_966)) (ok_t_l (ok_iload_n dX6_addDefinition_54 rfl))))) (ok_t_n (ok_t_n (ok_t_l (ok_dup2 dX6_addDefinition_55)) (ok_t_n (ok_t_l (ok_iaload dX6_addDefinition_56)) (ok_t_l (ok_iconst dX6_addDefinition_57 rfl)))) (ok_t_n (ok_t_n (ok_t_l (ok_iload_n dX6_addDefinition_58 rfl)) (ok_t_l (ok_ishl dX6_addDefinition_59))) (ok_t_n (ok_t_l (ok_ior dX6_addDefinition_60)) (ok_t_l (ok_iastore dX6_addDefinition_61)))))) (ok_t_n (ok_t_n (ok_t_n (ok_t_l (ok_iload_n dX6_addDefinition_62 rfl)) (ok_t_n (ok_t_l (ok_iconst dX6_addDefinition_63 rfl)) (ok_t_l (ok_icmp_eq dX6_addDefinition_64 rfl)))) (ok_t_n (ok_t_n (ok_t_l (ok_aload_n dX6_addDefinition_67 rfl)) (ok_t_l (ok_getfield dX6_addDefinition_68 (ci := 6) (kf := 1) rfl inGX6 (by decide) w_967))) (ok_t_n (ok_t_l (ok_iload_n dX6_addDefinition_71 rfl)) (ok_t_l (ok_dup2 dX6_addDefinition_72))))) (ok_t_n (ok_t_n (ok_t_l (ok_iaload dX6_addDefinition_73)) (ok_t_n (ok_t_l (ok_iconst dX6_addDefinition_74 rfl)) (ok_t_l (ok_iload_n dX6_addDefinition_75 rfl)))) (ok_t_n (ok_t_n (ok_t_l (ok_ishl dX6_addDefinition_76)) (ok_t_l (ok_ior dX6_addDefinition_77))) (ok_t_n (ok_t_l (ok_iastore dX6_addDefinition_78)) (ok_t_l (ok_vreturn dX6_addDefinition_79))))))))
theorem dX6_hide_0 : decode cX6_hide 0 = .ok (.aload_n 0, 1) := by decide +kernel
theorem dX6_hide_1 : decode cX6_hide 1 = .ok (.iload_n 1, 1) := by decide +kernel
theorem dX6_hide_2 : decode cX6_hide 2 = .ok (.invokevirtual 43, 3) := by decide +kernel
theorem dX6_hide_5 : decode cX6_hide 5 = .ok (.ifCond .eq 15, 3) := by decide +kernel
theorem dX6_hide_8 : decode cX6_hide 8 = .ok (.aload_n 0, 1) := by decide +kernel
theorem dX6_hide_9 : decode cX6_hide 9 = .ok (.getfield 36, 3) := by decide +kernel
theorem dX6_hide_12 : decode cX6_hide 12 = .ok (.iload_n 1, 1) := by decide +kernel
theorem dX6_hide_13 : decode cX6_hide 13 = .ok (.dup2, 1) := by decide +kernel
theorem dX6_hide_14 : decode cX6_hide 14 = .ok (.iaload, 1) := by decide +kernel
theorem dX6_hide_15 : decode cX6_hide 15 = .ok (.iconst 1, 1) := by decide +kernel
theorem dX6_hide_16 : decode cX6_hide 16 = .ok (.iload_n 2, 1) := by decide +kernel
theorem dX6_hide_17 : decode cX6_hide 17 = .ok (.ishl, 1) := by decide +kernel
theorem dX6_hide_18 : decode cX6_hide 18 = .ok (.ior, 1) := by decide +kernel
theorem dX6_hide_19 : decode cX6_hide 19 = .ok (.iastore, 1) := by decide +kernel
theorem dX6_hide_20 : decode cX6_hide 20 = .ok (.return_, 1) := by decide +kernel
def g_X6_hide : Nat → EA := (t_n 13 (t_n 5 (t_n 1 (t_l 0 (a_aload 1 0)) (t_n 2 (t_l 1 (a_iload 1 1)) (t_l 2 (a_inv true 88 2 (some 6))))) (t_n 9 (t_n 8 (t_l 5 (a_if 20 (fun x => decide (x = 0)))) (t_l 8 (a_aload 1 0))) (t_n 12 (t_l 9 (a_getf 6 8)) (t_l 12 (a_iload 1 1))))) (t_n 17 (t_n 15 (t_n 14 (t_l 13 a_dup2) (t_l 14 (a_ild 0))) (t_n 16 (t_l 15 (a_push 1 (.int 1))) (t_l 16 (a_iload 1 2)))) (t_n 19 (t_n 18 (t_l 17 (a_ii 1 (fun x y => x <<< (y &&& 31)))) (t_l 18 (a_ii 1 (fun x y => x ||| y)))) (t_n 20 (t_l 19 (a_ist 0)) (t_l 20 a_vret)))))
set_option maxRecDepth 100000 in
theorem k_X6_hide (sc : Nat × (Nat → Int32)) (d : Nat) : ∀ pc, ev_Ok cX6_hide 3 [] RX6 lw_g lw_n (lw_q sc) vwCl false (ev_CO mt lw_g lw_n (lw_q sc) vwCl d) pc (g_X6_hide pc) := (ok_t_n (ok_t_n (ok_t_n (ok_t_l (ok_aload_n dX6_hide_0 rfl)) (ok_t_n (ok_t_l (ok_iload_n dX6_hide_1 rfl)) (ok_t_l (ok_inv (run_V (y := 88) (n := 1) (ci := 6) dX6_hide_2 cz_88 gdG cc_88 ci_88 w_207 cm_88 cs_88 cd_88 cl_88 rfl rfl))))) (ok_t_n (ok_t_n (ok_t_l (ok_if_eq dX6_hide_5 rfl)) (ok_t_l (ok_aload_n dX6_hide_8 rfl))) (ok_t_n (ok_t_l (ok_getfield dX6_hide_9 (ci := 6) (kf := 8) rfl inGX6 (by decide) w_974)) (ok_t_l (ok_iload_n dX6_hide_12 rfl))))) (ok_t_n (ok_t_n (ok_t_n (ok_t_l (ok_dup2 dX6_hide_13)) (ok_t_l (ok_iaload dX6_hide_14))) (ok_t_n (ok_t_l (ok_iconst dX6_hide_15 rfl)) (ok_t_l (ok_iload_n dX6_hide_16 rfl)))) (ok_t_n (ok_t_n (ok_t_l (ok_ishl dX6_hide_17)) (ok_t_l (ok_ior dX6_hide_18))) (ok_t_n (ok_t_l (ok_iastore dX6_hide_19)) (ok_t_l (ok_vreturn dX6_hide_20))))))
theorem dX6_addCommon_0 : decode cX6_addCommon 0 = .ok (.aload_n 0, 1) := by decide +kernel
theorem dX6_addCommon_1 : decode cX6_addCommon 1 = .ok (.iload_n 1, 1) := by decide +kernel
theorem dX6_addCommon_2 : decode cX6_addCommon 2 = .ok (.invokevirtual 43, 3) := by decide +kernel
theorem dX6_addCommon_5 : decode cX6_addCommon 5 = .ok (.ifCond .eq 10, 3) := by decide +kernel
theorem dX6_addCommon_8 : decode cX6_addCommon 8 = .ok (.iload_n 2, 1) := by decide +kernel
theorem dX6_addCommon_9 : decode cX6_addCommon 9 = .ok (.invokestatic 47, 3) := by decide +kernel
theorem dX6_addCommon_12 : decode cX6_addCommon 12 = .ok (.ifCond .ne 4, 3) := by decide +kernel
theorem dX6_addCommon_15 : decode cX6_addCommon 15 = .ok (.return_, 1) := by decide +kernel
theorem dX6_addCommon_16 : decode cX6_addCommon 16 = .ok (.aload_n 0, 1) := by decide +kernel
theorem dX6_addCommon_17 : decode cX6_addCommon 17 = .ok (.iload_n 1, 1) := by decide +kernel
theorem dX6_addCommon_18 : decode cX6_addCommon 18 = .ok (.iload_n 2, 1) := by decide +kernel
theorem dX6_addCommon_19 : decode cX6_addCommon 19 = .ok (.iconst 1, 1) := by decide +kernel
theorem dX6_addCommon_20 : decode cX6_addCommon 20 = .ok (.iconst (-1), 1) := by decide +kernel
theorem dX6_addCommon_21 : decode cX6_addCommon 21 = .ok (.iconst (-1), 1) := by decide +kernel
theorem dX6_addCommon_22 : decode cX6_addCommon 22 = .ok (.invokevirtual 50, 3) := by decide +kernel
theorem dX6_addCommon_25 : decode cX6_addCommon 25 = .ok (.aload_n 0, 1) := by decide +kernel
theorem dX6_addCommon_26 : decode cX6_addCommon 26 = .ok (.getfield 30, 3) := by decide +kernel
theorem dX6_addCommon_29 : decode cX6_addCommon 29 = .ok (.iload_n 1, 1) := by decide +kernel
theorem dX6_addCommon_30 : decode cX6_addCommon 30 = .ok (.bipush 20, 2) := by decide +kernel
theorem dX6_addCommon_32 : decode cX6_addCommon 32 = .ok (.imul, 1) := by decide +kernel
theorem dX6_addCommon_33 : decode cX6_addCommon 33 = .ok (.iload_n 2, 1) := by decide +kernel
theorem dX6_addCommon_34 : decode cX6_addCommon 34 = .ok (.iadd, 1) := by decide +kernel
theorem dX6_addCommon_35 : decode cX6_addCommon 35 = .ok (.iload_n 3, 1) := by decide +kernel
theorem dX6_addCommon_36 : decode cX6_addCommon 36 = .ok (.iastore, 1) := by decide +kernel
theorem dX6_addCommon_37 : decode cX6_addCommon 37 = .ok (.aload_n 0, 1) := by decide +kernel
theorem dX6_addCommon_38 : decode cX6_addCommon 38 = .ok (.getfield 33, 3) := by decide +kernel
theorem dX6_addCommon_41 : decode cX6_addCommon 41 = .ok (.iload_n 1, 1) := by decide +kernel
theorem dX6_addCommon_42 : decode cX6_addCommon 42 = .ok (.bipush 20, 2) := by decide +kernel
theorem dX6_addCommon_44 : decode cX6_addCommon 44 = .ok (.imul, 1) := by decide +kernel
theorem dX6_addCommon_45 : decode cX6_addCommon 45 = .ok (.iload_n 2, 1) := by decide +kernel
theorem dX6_addCommon_46 : decode cX6_addCommon 46 = .ok (.iadd, 1) := by decide +kernel
theorem dX6_addCommon_47 : decode cX6_addCommon 47 = .ok (.iload 4, 2) := by decide +kernel
theorem dX6_addCommon_49 : decode cX6_addCommon 49 = .ok (.iastore, 1) := by decide +kernel
theorem dX6_addCommon_50 : decode cX6_addCommon 50 = .ok (.return_, 1) := by decide +kernel
def g_X6_addCommon : Nat → EA := (t_n 29 (t_n 16 (t_n 8 (t_n 2 (t_n 1 (t_l 0 (a_aload 1 0)) (t_l 1 (a_iload 1 1))) (t_n 5 (t_l 2 (a_inv true 88 2 (some 6))) (t_l 5 (a_if 15 (fun x => decide (x = 0)))))) (t_n 12 (t_n 9 (t_l 8 (a_iload 1 2)) (t_l 9 (a_inv false 193 1 none))) (t_n 15 (t_l 12 (a_if 16 (fun x => !decide (x = 0)))) (t_l 15 a_vret)))) (t_n 20 (t_n 18 (t_n 17 (t_l 16 (a_aload 1 0)) (t_l 17 (a_iload 1 1))) (t_n 19 (t_l 18 (a_iload 1 2)) (t_l 19 (a_push 1 (.int 1))))) (t_n 22 (t_n 21 (t_l 20 (a_push 1 (.int (-1)))) (t_l 21 (a_push 1 (.int (-1))))) (t_n 25 (t_l 22 (a_inv true 95 6 (some 6))) (t_n 26 (t_l 25 (a_aload 1 0)) (t_l 26 (a_getf 6 6))))))) (t_n 38 (t_n 34 (t_n 32 (t_n 30 (t_l 29 (a_iload 1 1)) (t_l 30 (a_push 2 (.int 20)))) (t_n 33 (t_l 32 (a_ii 1 (fun x y => x * y))) (t_l 33 (a_iload 1 2)))) (t_n 36 (t_n 35 (t_l 34 (a_ii 1 (fun x y => x + y))) (t_l 35 (a_iload 1 3))) (t_n 37 (t_l 36 (a_ist 0)) (t_l 37 (a_aload 1 0))))) (t_n 45 (t_n 42 (t_n 41 (t_l 38 (a_getf 6 7)) (t_l 41 (a_iload 1 1))) (t_n 44 (t_l 42 (a_push 2 (.int 20))) (t_l 44 (a_ii 1 (fun x y => x * y))))) (t_n 47 (t_n 46 (t_l 45 (a_iload 1 2)) (t_l 46 (a_ii 1 (fun x y => x + y)))) (t_n 49 (t_l 47 (a_iload 2 4)) (t_n 50 (t_l 49 (a_ist 0)) (t_l 50 a_vret)))))))
set_option maxRecDepth 100000 in
theorem k_X6_addCommon (sc : Nat × (Nat → Int32)) (d : Nat) : ∀ pc, ev_Ok cX6_addCommon 5 [] RX6 lw_g lw_n (lw_q sc) vwCl false (ev_CO mt lw_g lw_n (lw_q sc) vwCl d) pc (g_X6_addCommon pc) := (ok_t_n (ok_t_n (ok_t_n (ok_t_n (ok_t_n (ok_t_l (ok_aload_n dX6_addCommon_0 rfl)) (ok_t_l (ok_iload_n dX6_addCommon_1 rfl))) (ok_t_n (ok_t_l (ok_inv (run_V (y := 88) (n := 1) (ci := 6) dX6_addCommon_2 cz_88 gdG cc_88 ci_88 w_207 cm_88 cs_88 cd_88 cl_88 rfl rfl))) (ok_t_l (ok_if_eq dX6_addCommon_5 rfl)))) (ok_t_n (ok_t_n (ok_t_l (ok_iload_n dX6_addCommon_8 rfl)) (ok_t_l (ok_inv (run_SN (y := 193) (n := 1) dX6_addCommon_9 cz_193 gdG cc_193 ci_193 nst_0 cm_193 cd_193 cl_193)))) (ok_t_n (ok_t_l (ok_if_ne dX6_addCommon_12 rfl)) (ok_t_l (ok_vreturn dX6_addCommon_15))))) (ok_t_n (ok_t_n (ok_t_n (ok_t_l (ok_aload_n dX6_addCommon_16 rfl)) (ok_t_l (ok_iload_n dX6_addCommon_17 rfl))) (ok_t_n (ok_t_l (ok_iload_n dX6_addCommon_18 rfl)) (ok_t_l (ok_iconst dX6_addCommon_19 rfl)))) (ok_t_n (ok_t_n (ok_t_l (ok_iconst dX6_addCommon_20 rfl)) (ok_t_l (ok_iconst dX6_addCommon_21 rfl))) (ok_t_n (ok_t_l (ok_inv (run_V (y := 95) (n := 5) (ci := 6) dX6_addCommon_22 cz_95 gdG cc_95 ci_95 w_217 cm_95 cs_95 cd_95 cl_95 rfl rfl))) (ok_t_n (ok_t_l (ok_aload_n dX6_addCommon_25 rfl)) (ok_t_l (ok_getfield dX6_addCommon_26 (ci := 6) (kf := 6) rfl inGX6 (by decide) w_972))))))) (ok_t_n (ok_t_n (ok_t_n (ok_t_n (ok_t_l (ok_iload_n dX6_addCommon_29 rfl)) (ok_t_l (ok_bipush dX6_addCommon_30 rfl))) (ok_t_n (ok_t_l (ok_imul dX6_addCommon_32)) (ok_t_l (ok_iload_n dX6_addCommon_33 rfl)))) (ok_t_n (ok_t_n (ok_t_l (ok_iadd dX6_addCommon_34)) (ok_t_l (ok_iload_n dX6_addCommon_35 rfl))) (ok_t_n (ok_t_l (ok_iastore dX6_addCommon_36)) (ok_t_l (ok_aload_n dX6_addCommon_37 rfl))))) (ok_t_n (ok_t_n (ok_t_n (ok_t_l (ok_getfield dX6_addCommon_38 (ci := 6) (kf := 7) rfl inGX6 (by decide) w_973)) (ok_t_l (ok_iload_n dX6_addCommon_41 rfl))) (ok_t_n (ok_t_l (ok_bipush dX6_addCommon_42 rfl)) (ok_t_l (ok_imul dX6_addCommon_44)))) (ok_t_n (ok_t_n (ok_t_l (ok_iload_n dX6_addCommon_45 rfl)) (ok_t_l (ok_iadd dX6_addCommon_46))) (ok_t_n (ok_t_l (ok_iload dX6_addCommon_47)) (ok_t_n (ok_t_l (ok_iastore dX6_addCommon_49)) (ok_t_l (ok_vreturn dX6_addCommon_50))))))))
theorem dX6_kind_0 : decode cX6_kind 0 = .ok (.aload_n 0, 1) := by decide +kernel
theorem dX6_kind_1 : decode cX6_kind 1 = .ok (.iload_n 1, 1) := by decide +kernel
theorem dX6_kind_2 : decode cX6_kind 2 = .ok (.invokevirtual 43, 3) := by decide +kernel
theorem dX6_kind_5 : decode cX6_kind 5 = .ok (.ifCond .eq 23, 3) := by decide +kernel
theorem dX6_kind_8 : decode cX6_kind 8 = .ok (.iload_n 2, 1) := by decide +kernel
theorem dX6_kind_9 : decode cX6_kind 9 = .ok (.invokestatic 47, 3) := by decide +kernel
theorem dX6_kind_12 : decode cX6_kind 12 = .ok (.ifCond .eq 16, 3) := by decide +kernel
theorem dX6_kind_15 : decode cX6_kind 15 = .ok (.aload_n 0, 1) := by decide +kernel
theorem dX6_kind_16 : decode cX6_kind 16 = .ok (.getfield 9, 3) := by decide +kernel
theorem dX6_kind_19 : decode cX6_kind 19 = .ok (.iload_n 1, 1) := by decide +kernel
theorem dX6_kind_20 : decode cX6_kind 20 = .ok (.iaload, 1) := by decide +kernel
theorem dX6_kind_21 : decode cX6_kind 21 = .ok (.iload_n 2, 1) := by decide +kernel
theorem dX6_kind_22 : decode cX6_kind 22 = .ok (.invokestatic 54, 3) := by decide +kernel
theorem dX6_kind_25 : decode cX6_kind 25 = .ok (.ifCond .ne 5, 3) := by decide +kernel
theorem dX6_kind_28 : decode cX6_kind 28 = .ok (.iconst (-1), 1) := by decide +kernel
theorem dX6_kind_29 : decode cX6_kind 29 = .ok (.ireturn, 1) := by decide +kernel
theorem dX6_kind_30 : decode cX6_kind 30 = .ok (.aload_n 0, 1) := by decide +kernel
theorem dX6_kind_31 : decode cX6_kind 31 = .ok (.getfield 21, 3) := by decide +kernel
theorem dX6_kind_34 : decode cX6_kind 34 = .ok (.iload_n 1, 1) := by decide +kernel
theorem dX6_kind_35 : decode cX6_kind 35 = .ok (.bipush 20, 2) := by decide +kernel
theorem dX6_kind_37 : decode cX6_kind 37 = .ok (.imul, 1) := by decide +kernel
theorem dX6_kind_38 : decode cX6_kind 38 = .ok (.iload_n 2, 1) := by decide +kernel
theorem dX6_kind_39 : decode cX6_kind 39 = .ok (.iadd, 1) := by decide +kernel
theorem dX6_kind_40 : decode cX6_kind 40 = .ok (.iaload, 1) := by decide +kernel
theorem dX6_kind_41 : decode cX6_kind 41 = .ok (.ireturn, 1) := by decide +kernel
def g_X6_kind : Nat → EA := (t_n 22 (t_n 12 (t_n 5 (t_n 1 (t_l 0 (a_aload 1 0)) (t_n 2 (t_l 1 (a_iload 1 1)) (t_l 2 (a_inv true 88 2 (some 6))))) (t_n 8 (t_l 5 (a_if 28 (fun x => decide (x = 0)))) (t_n 9 (t_l 8 (a_iload 1 2)) (t_l 9 (a_inv false 193 1 none))))) (t_n 19 (t_n 15 (t_l 12 (a_if 28 (fun x => decide (x = 0)))) (t_n 16 (t_l 15 (a_aload 1 0)) (t_l 16 (a_getf 6 0)))) (t_n 20 (t_l 19 (a_iload 1 1)) (t_n 21 (t_l 20 (a_ild 0)) (t_l 21 (a_iload 1 2)))))) (t_n 34 (t_n 29 (t_n 25 (t_l 22 (a_inv false 196 2 none)) (t_n 28 (t_l 25 (a_if 30 (fun x => !decide (x = 0)))) (t_l 28 (a_push 1 (.int (-1)))))) (t_n 30 (t_l 29 a_iret) (t_n 31 (t_l 30 (a_aload 1 0)) (t_l 31 (a_getf 6 3))))) (t_n 38 (t_n 35 (t_l 34 (a_iload 1 1)) (t_n 37 (t_l 35 (a_push 2 (.int 20))) (t_l 37 (a_ii 1 (fun x y => x * y))))) (t_n 40 (t_n 39 (t_l 38 (a_iload 1 2)) (t_l 39 (a_ii 1 (fun x y => x + y)))) (t_n 41 (t_l 40 (a_ild 0)) (t_l 41 a_iret))))))
set_option maxRecDepth 100000 in
theorem k_X6_kind (sc : Nat × (Nat → Int32)) (d : Nat) : ∀ pc, ev_Ok cX6_kind 3 [] RX6 lw_g lw_n (lw_q sc) vwCl false (ev_CO mt lw_g lw_n (lw_q sc) vwCl d) pc (g_X6_kind pc) := (ok_t_n (ok_t_n (ok_t_n (ok_t_n (ok_t_l (ok_aload_n dX6_kind_0 rfl)) (ok_t_n (ok_t_l (ok_iload_n dX6_kind_1 rfl)) (ok_t_l (ok_inv (run_V (y := 88) (n := 1) (ci := 6) dX6_kind_2 cz_88 gdG cc_88 ci_88 w_207 cm_88 cs_88 cd_88 cl_88 rfl rfl))))) (ok_t_n (ok_t_l (ok_if_eq dX6_kind_5 rfl)) (ok_t_n (ok_t_l (ok_iload_n dX6_kind_8 rfl)) (ok_t_l (ok_inv (run_SN (y := 193) (n := 1) dX6_kind_9 cz_193 gdG cc_193 ci_193 nst_0 cm_193 cd_193 cl_193)))))) (ok_t_n (ok_t_n (ok_t_l (ok_if_eq dX6_kind_12 rfl)) (ok_t_n (ok_t_l (ok_aload_n dX6_kind_15 rfl)) (ok_t_l (ok_getfield dX6_kind_16 (ci := 6) (kf := 0) rfl inGX6 (by decide) w_966)))) (ok_t_n (ok_t_l (ok_iload_n dX6_kind_19 rfl)) (ok_t_n (ok_t_l (ok_iaload dX6_kind_20)) (ok_t_l (ok_iload_n dX6_kind_21 rfl)))))) (ok_t_n (ok_t_n (ok_t_n (ok_t_l (ok_inv (run_SN (y := 196) (n := 2) dX6_kind_22 cz_196 gdG cc_196 ci_196 nst_1 cm_196 cd_196 cl_196))) (ok_t_n (ok_t_l (ok_if_ne dX6_kind_25 rfl)) (ok_t_l (ok_iconst dX6_kind_28 rfl)))) (ok_t_n (ok_t_l (ok_ireturn dX6_kind_29)) (ok_t_n (ok_t_l (ok_aload_n dX6_kind_30 rfl)) (ok_t_l (ok_getfield dX6_kind_31 (ci := 6) (kf := 3) rfl inGX6 (by decide) w_969))))) (ok_t_n (ok_t_n (ok_t_l (ok_iload_n dX6_kind_34 rfl)) (ok_t_n (ok_t_l (ok_bipush dX6_kind_35 rfl)) (ok_t_l (ok_imul dX6_kind_37)))) (ok_t_n (ok_t_n (ok_t_l (ok_iload_n dX6_kind_38 rfl)) (ok_t_l (ok_iadd dX6_kind_39))) (ok_t_n (ok_t_l (ok_iaload dX6_kind_40)) (ok_t_l (ok_ireturn dX6_kind_41)))))))
theorem dX6_sectionOf_0 : decode cX6_sectionOf 0 = .ok (.aload_n 0, 1) := by decide +kernel
theorem dX6_sectionOf_1 : decode cX6_sectionOf 1 = .ok (.iload_n 1, 1) := by decide +kernel
theorem dX6_sectionOf_2 : decode cX6_sectionOf 2 = .ok (.invokevirtual 43, 3) := by decide +kernel
theorem dX6_sectionOf_5 : decode cX6_sectionOf 5 = .ok (.ifCond .eq 24, 3) := by decide +kernel
theorem dX6_sectionOf_8 : decode cX6_sectionOf 8 = .ok (.iload_n 2, 1) := by decide +kernel
theorem dX6_sectionOf_9 : decode cX6_sectionOf 9 = .ok (.invokestatic 47, 3) := by decide +kernel
theorem dX6_sectionOf_12 : decode cX6_sectionOf 12 = .ok (.ifCond .eq 17, 3) := by decide +kernel
theorem dX6_sectionOf_15 : decode cX6_sectionOf 15 = .ok (.aload_n 0, 1) := by decide +kernel
theorem dX6_sectionOf_16 : decode cX6_sectionOf 16 = .ok (.getfield 24, 3) := by decide +kernel
theorem dX6_sectionOf_19 : decode cX6_sectionOf 19 = .ok (.iload_n 1, 1) := by decide +kernel
theorem dX6_sectionOf_20 : decode cX6_sectionOf 20 = .ok (.bipush 20, 2) := by decide +kernel
theorem dX6_sectionOf_22 : decode cX6_sectionOf 22 = .ok (.imul, 1) := by decide +kernel
theorem dX6_sectionOf_23 : decode cX6_sectionOf 23 = .ok (.iload_n 2, 1) := by decide +kernel
theorem dX6_sectionOf_24 : decode cX6_sectionOf 24 = .ok (.iadd, 1) := by decide +kernel
theorem dX6_sectionOf_25 : decode cX6_sectionOf 25 = .ok (.iaload, 1) := by decide +kernel
theorem dX6_sectionOf_26 : decode cX6_sectionOf 26 = .ok (.goto 4, 3) := by decide +kernel
theorem dX6_sectionOf_29 : decode cX6_sectionOf 29 = .ok (.iconst (-1), 1) := by decide +kernel
theorem dX6_sectionOf_30 : decode cX6_sectionOf 30 = .ok (.ireturn, 1) := by decide +kernel
def g_X6_sectionOf : Nat → EA := (t_n 19 (t_n 8 (t_n 2 (t_n 1 (t_l 0 (a_aload 1 0)) (t_l 1 (a_iload 1 1))) (t_n 5 (t_l 2 (a_inv true 88 2 (some 6))) (t_l 5 (a_if 29 (fun x => decide (x = 0)))))) (t_n 12 (t_n 9 (t_l 8 (a_iload 1 2)) (t_l 9 (a_inv false 193 1 none))) (t_n 15 (t_l 12 (a_if 29 (fun x => decide (x = 0)))) (t_n 16 (t_l 15 (a_aload 1 0)) (t_l 16 (a_getf 6 4)))))) (t_n 24 (t_n 22 (t_n 20 (t_l 19 (a_iload 1 1)) (t_l 20 (a_push 2 (.int 20)))) (t_n 23 (t_l 22 (a_ii 1 (fun x y => x * y))) (t_l 23 (a_iload 1 2)))) (t_n 26 (t_n 25 (t_l 24 (a_ii 1 (fun x y => x + y))) (t_l 25 (a_ild 0))) (t_n 29 (t_l 26 (a_goto 30)) (t_n 30 (t_l 29 (a_push 1 (.int (-1)))) (t_l 30 a_iret))))))
set_option maxRecDepth 100000 in
theorem k_X6_sectionOf (sc : Nat × (Nat → Int32)) (d : Nat) : ∀ pc, ev_Ok cX6_sectionOf 3 [] RX6 lw_g lw_n (lw_q sc) vwCl false (ev_CO mt lw_g lw_n (lw_q sc) vwCl d) pc (g_X6_sectionOf pc) := (ok_t_n (ok_t_n (ok_t_n (ok_t_n (ok_t_l (ok_aload_n dX6_sectionOf_0 rfl)) (ok_t_l (ok_iload_n dX6_sectionOf_1 rfl))) (ok_t_n (ok_t_l (ok_inv (run_V (y := 88) (n := 1) (ci := 6) dX6_sectionOf_2 cz_88 gdG cc_88 ci_88 w_207 cm_88 cs_88 cd_88 cl_88 rfl rfl))) (ok_t_l (ok_if_eq dX6_sectionOf_5 rfl)))) (ok_t_n (ok_t_n (ok_t_l (ok_iload_n dX6_sectionOf_8 rfl)) (ok_t_l (ok_inv (run_SN (y := 193) (n := 1) dX6_sectionOf_9 cz_193 gdG cc_193 ci_193 nst_0 cm_193 cd_193 cl_193)))) (ok_t_n (ok_t_l (ok_if_eq dX6_sectionOf_12 rfl)) (ok_t_n (ok_t_l (ok_aload_n dX6_sectionOf_15 rfl)) (ok_t_l (ok_getfield dX6_sectionOf_16 (ci := 6) (kf := 4) rfl inGX6 (by decide) w_970)))))) (ok_t_n (ok_t_n (ok_t_n (ok_t_l (ok_iload_n dX6_sectionOf_19 rfl)) (ok_t_l (ok_bipush dX6_sectionOf_20 rfl))) (ok_t_n (ok_t_l (ok_imul dX6_sectionOf_22)) (ok_t_l (ok_iload_n dX6_sectionOf_23 rfl)))) (ok_t_n (ok_t_n (ok_t_l (ok_iadd dX6_sectionOf_24)) (ok_t_l (ok_iaload dX6_sectionOf_25))) (ok_t_n (ok_t_l (ok_goto dX6_sectionOf_26 rfl)) (ok_t_n (ok_t_l (ok_iconst dX6_sectionOf_29 rfl)) (ok_t_l (ok_ireturn dX6_sectionOf_30)))))))
theorem dX6_placeOf_0 : decode cX6_placeOf 0 = .ok (.aload_n 0, 1) := by decide +kernel
theorem dX6_placeOf_1 : decode cX6_placeOf 1 = .ok (.iload_n 1, 1) := by decide +kernel
theorem dX6_placeOf_2 : decode cX6_placeOf 2 = .ok (.invokevirtual 43, 3) := by decide +kernel
theorem dX6_placeOf_5 : decode cX6_placeOf 5 = .ok (.ifCond .eq 24, 3) := by decide +kernel
theorem dX6_placeOf_8 : decode cX6_placeOf 8 = .ok (.iload_n 2, 1) := by decide +kernel
theorem dX6_placeOf_9 : decode cX6_placeOf 9 = .ok (.invokestatic 47, 3) := by decide +kernel
theorem dX6_placeOf_12 : decode cX6_placeOf 12 = .ok (.ifCond .eq 17, 3) := by decide +kernel
theorem dX6_placeOf_15 : decode cX6_placeOf 15 = .ok (.aload_n 0, 1) := by decide +kernel
theorem dX6_placeOf_16 : decode cX6_placeOf 16 = .ok (.getfield 27, 3) := by decide +kernel
theorem dX6_placeOf_19 : decode cX6_placeOf 19 = .ok (.iload_n 1, 1) := by decide +kernel
theorem dX6_placeOf_20 : decode cX6_placeOf 20 = .ok (.bipush 20, 2) := by decide +kernel
theorem dX6_placeOf_22 : decode cX6_placeOf 22 = .ok (.imul, 1) := by decide +kernel
theorem dX6_placeOf_23 : decode cX6_placeOf 23 = .ok (.iload_n 2, 1) := by decide +kernel
theorem dX6_placeOf_24 : decode cX6_placeOf 24 = .ok (.iadd, 1) := by decide +kernel
theorem dX6_placeOf_25 : decode cX6_placeOf 25 = .ok (.iaload, 1) := by decide +kernel
theorem dX6_placeOf_26 : decode cX6_placeOf 26 = .ok (.goto 4, 3) := by decide +kernel
theorem dX6_placeOf_29 : decode cX6_placeOf 29 = .ok (.iconst (-1), 1) := by decide +kernel
theorem dX6_placeOf_30 : decode cX6_placeOf 30 = .ok (.ireturn, 1) := by decide +kernel
def g_X6_placeOf : Nat → EA := (t_n 19 (t_n 8 (t_n 2 (t_n 1 (t_l 0 (a_aload 1 0)) (t_l 1 (a_iload 1 1))) (t_n 5 (t_l 2 (a_inv true 88 2 (some 6))) (t_l 5 (a_if 29 (fun x => decide (x = 0)))))) (t_n 12 (t_n 9 (t_l 8 (a_iload 1 2)) (t_l 9 (a_inv false 193 1 none))) (t_n 15 (t_l 12 (a_if 29 (fun x => decide (x = 0)))) (t_n 16 (t_l 15 (a_aload 1 0)) (t_l 16 (a_getf 6 5)))))) (t_n 24 (t_n 22 (t_n 20 (t_l 19 (a_iload 1 1)) (t_l 20 (a_push 2 (.int 20)))) (t_n 23 (t_l 22 (a_ii 1 (fun x y => x * y))) (t_l 23 (a_iload 1 2)))) (t_n 26 (t_n 25 (t_l 24 (a_ii 1 (fun x y => x + y))) (t_l 25 (a_ild 0))) (t_n 29 (t_l 26 (a_goto 30)) (t_n 30 (t_l 29 (a_push 1 (.int (-1)))) (t_l 30 a_iret))))))
set_option maxRecDepth 100000 in
theorem k_X6_placeOf (sc : Nat × (Nat → Int32)) (d : Nat) : ∀ pc, ev_Ok cX6_placeOf 3 [] RX6 lw_g lw_n (lw_q sc) vwCl false (ev_CO mt lw_g lw_n (lw_q sc) vwCl d) pc (g_X6_placeOf pc) := (ok_t_n (ok_t_n (ok_t_n (ok_t_n (ok_t_l (ok_aload_n dX6_placeOf_0 rfl)) (ok_t_l (ok_iload_n dX6_placeOf_1 rfl))) (ok_t_n (ok_t_l (ok_inv (run_V (y := 88) (n := 1) (ci := 6) dX6_placeOf_2 cz_88 gdG cc_88 ci_88 w_207 cm_88 cs_88 cd_88 cl_88 rfl rfl))) (ok_t_l (ok_if_eq dX6_placeOf_5 rfl)))) (ok_t_n (ok_t_n (ok_t_l (ok_iload_n dX6_placeOf_8 rfl)) (ok_t_l (ok_inv (run_SN (y := 193) (n := 1) dX6_placeOf_9 cz_193 gdG cc_193 ci_193 nst_0 cm_193 cd_193 cl_193)))) (ok_t_n (ok_t_l (ok_if_eq dX6_placeOf_12 rfl)) (ok_t_n (ok_t_l (ok_aload_n dX6_placeOf_15 rfl)) (ok_t_l (ok_getfield dX6_placeOf_16 (ci := 6) (kf := 5) rfl inGX6 (by decide) w_971)))))) (ok_t_n (ok_t_n (ok_t_n (ok_t_l (ok_iload_n dX6_placeOf_19 rfl)) (ok_t_l (ok_bipush dX6_placeOf_20 rfl))) (ok_t_n (ok_t_l (ok_imul dX6_placeOf_22)) (ok_t_l (ok_iload_n dX6_placeOf_23 rfl)))) (ok_t_n (ok_t_n (ok_t_l (ok_iadd dX6_placeOf_24)) (ok_t_l (ok_iaload dX6_placeOf_25))) (ok_t_n (ok_t_l (ok_goto dX6_placeOf_26 rfl)) (ok_t_n (ok_t_l (ok_iconst dX6_placeOf_29 rfl)) (ok_t_l (ok_ireturn dX6_placeOf_30)))))))
theorem dX6_size_0 : decode cX6_size 0 = .ok (.aload_n 0, 1) := by decide +kernel
theorem dX6_size_1 : decode cX6_size 1 = .ok (.iload_n 1, 1) := by decide +kernel
theorem dX6_size_2 : decode cX6_size 2 = .ok (.invokevirtual 43, 3) := by decide +kernel
theorem dX6_size_5 : decode cX6_size 5 = .ok (.ifCond .eq 24, 3) := by decide +kernel
theorem dX6_size_8 : decode cX6_size 8 = .ok (.iload_n 2, 1) := by decide +kernel
theorem dX6_size_9 : decode cX6_size 9 = .ok (.invokestatic 47, 3) := by decide +kernel
theorem dX6_size_12 : decode cX6_size 12 = .ok (.ifCond .eq 17, 3) := by decide +kernel
theorem dX6_size_15 : decode cX6_size 15 = .ok (.aload_n 0, 1) := by decide +kernel
theorem dX6_size_16 : decode cX6_size 16 = .ok (.getfield 30, 3) := by decide +kernel
theorem dX6_size_19 : decode cX6_size 19 = .ok (.iload_n 1, 1) := by decide +kernel
theorem dX6_size_20 : decode cX6_size 20 = .ok (.bipush 20, 2) := by decide +kernel
theorem dX6_size_22 : decode cX6_size 22 = .ok (.imul, 1) := by decide +kernel
theorem dX6_size_23 : decode cX6_size 23 = .ok (.iload_n 2, 1) := by decide +kernel
theorem dX6_size_24 : decode cX6_size 24 = .ok (.iadd, 1) := by decide +kernel
theorem dX6_size_25 : decode cX6_size 25 = .ok (.iaload, 1) := by decide +kernel
theorem dX6_size_26 : decode cX6_size 26 = .ok (.goto 4, 3) := by decide +kernel
theorem dX6_size_29 : decode cX6_size 29 = .ok (.iconst 0, 1) := by decide +kernel
theorem dX6_size_30 : decode cX6_size 30 = .ok (.ireturn, 1) := by decide +kernel
def g_X6_size : Nat → EA := (t_n 19 (t_n 8 (t_n 2 (t_n 1 (t_l 0 (a_aload 1 0)) (t_l 1 (a_iload 1 1))) (t_n 5 (t_l 2 (a_inv true 88 2 (some 6))) (t_l 5 (a_if 29 (fun x => decide (x = 0)))))) (t_n 12 (t_n 9 (t_l 8 (a_iload 1 2)) (t_l 9 (a_inv false 193 1 none))) (t_n 15 (t_l 12 (a_if 29 (fun x => decide (x = 0)))) (t_n 16 (t_l 15 (a_aload 1 0)) (t_l 16 (a_getf 6 6)))))) (t_n 24 (t_n 22 (t_n 20 (t_l 19 (a_iload 1 1)) (t_l 20 (a_push 2 (.int 20)))) (t_n 23 (t_l 22 (a_ii 1 (fun x y => x * y))) (t_l 23 (a_iload 1 2)))) (t_n 26 (t_n 25 (t_l 24 (a_ii 1 (fun x y => x + y))) (t_l 25 (a_ild 0))) (t_n 29 (t_l 26 (a_goto 30)) (t_n 30 (t_l 29 (a_push 1 (.int 0))) (t_l 30 a_iret))))))
set_option maxRecDepth 100000 in
theorem k_X6_size (sc : Nat × (Nat → Int32)) (d : Nat) : ∀ pc, ev_Ok cX6_size 3 [] RX6 lw_g lw_n (lw_q sc) vwCl false (ev_CO mt lw_g lw_n (lw_q sc) vwCl d) pc (g_X6_size pc) := (ok_t_n (ok_t_n (ok_t_n (ok_t_n (ok_t_l (ok_aload_n dX6_size_0 rfl)) (ok_t_l (ok_iload_n dX6_size_1 rfl))) (ok_t_n (ok_t_l (ok_inv (run_V (y := 88) (n := 1) (ci := 6) dX6_size_2 cz_88 gdG cc_88 ci_88 w_207 cm_88 cs_88 cd_88 cl_88 rfl rfl))) (ok_t_l (ok_if_eq dX6_size_5 rfl)))) (ok_t_n (ok_t_n (ok_t_l (ok_iload_n dX6_size_8 rfl)) (ok_t_l (ok_inv (run_SN (y := 193) (n := 1) dX6_size_9 cz_193 gdG cc_193 ci_193 nst_0 cm_193 cd_193 cl_193)))) (ok_t_n (ok_t_l (ok_if_eq dX6_size_12 rfl)) (ok_t_n (ok_t_l (ok_aload_n dX6_size_15 rfl)) (ok_t_l (ok_getfield dX6_size_16 (ci := 6) (kf := 6) rfl inGX6 (by decide) w_972)))))) (ok_t_n (ok_t_n (ok_t_n (ok_t_l (ok_iload_n dX6_size_19 rfl)) (ok_t_l (ok_bipush dX6_size_20 rfl))) (ok_t_n (ok_t_l (ok_imul dX6_size_22)) (ok_t_l (ok_iload_n dX6_size_23 rfl)))) (ok_t_n (ok_t_n (ok_t_l (ok_iadd dX6_size_24)) (ok_t_l (ok_iaload dX6_size_25))) (ok_t_n (ok_t_l (ok_goto dX6_size_26 rfl)) (ok_t_n (ok_t_l (ok_iconst dX6_size_29 rfl)) (ok_t_l (ok_ireturn dX6_size_30)))))))
theorem dX6_align_0 : decode cX6_align 0 = .ok (.aload_n 0, 1) := by decide +kernel
theorem dX6_align_1 : decode cX6_align 1 = .ok (.iload_n 1, 1) := by decide +kernel
theorem dX6_align_2 : decode cX6_align 2 = .ok (.invokevirtual 43, 3) := by decide +kernel
theorem dX6_align_5 : decode cX6_align 5 = .ok (.ifCond .eq 24, 3) := by decide +kernel
theorem dX6_align_8 : decode cX6_align 8 = .ok (.iload_n 2, 1) := by decide +kernel
theorem dX6_align_9 : decode cX6_align 9 = .ok (.invokestatic 47, 3) := by decide +kernel
theorem dX6_align_12 : decode cX6_align 12 = .ok (.ifCond .eq 17, 3) := by decide +kernel
theorem dX6_align_15 : decode cX6_align 15 = .ok (.aload_n 0, 1) := by decide +kernel
theorem dX6_align_16 : decode cX6_align 16 = .ok (.getfield 33, 3) := by decide +kernel
theorem dX6_align_19 : decode cX6_align 19 = .ok (.iload_n 1, 1) := by decide +kernel
theorem dX6_align_20 : decode cX6_align 20 = .ok (.bipush 20, 2) := by decide +kernel
theorem dX6_align_22 : decode cX6_align 22 = .ok (.imul, 1) := by decide +kernel
theorem dX6_align_23 : decode cX6_align 23 = .ok (.iload_n 2, 1) := by decide +kernel
theorem dX6_align_24 : decode cX6_align 24 = .ok (.iadd, 1) := by decide +kernel
theorem dX6_align_25 : decode cX6_align 25 = .ok (.iaload, 1) := by decide +kernel
theorem dX6_align_26 : decode cX6_align 26 = .ok (.goto 4, 3) := by decide +kernel
theorem dX6_align_29 : decode cX6_align 29 = .ok (.iconst 1, 1) := by decide +kernel
theorem dX6_align_30 : decode cX6_align 30 = .ok (.ireturn, 1) := by decide +kernel
def g_X6_align : Nat → EA := (t_n 19 (t_n 8 (t_n 2 (t_n 1 (t_l 0 (a_aload 1 0)) (t_l 1 (a_iload 1 1))) (t_n 5 (t_l 2 (a_inv true 88 2 (some 6))) (t_l 5 (a_if 29 (fun x => decide (x = 0)))))) (t_n 12 (t_n 9 (t_l 8 (a_iload 1 2)) (t_l 9 (a_inv false 193 1 none))) (t_n 15 (t_l 12 (a_if 29 (fun x => decide (x = 0)))) (t_n 16 (t_l 15 (a_aload 1 0)) (t_l 16 (a_getf 6 7)))))) (t_n 24 (t_n 22 (t_n 20 (t_l 19 (a_iload 1 1)) (t_l 20 (a_push 2 (.int 20)))) (t_n 23 (t_l 22 (a_ii 1 (fun x y => x * y))) (t_l 23 (a_iload 1 2)))) (t_n 26 (t_n 25 (t_l 24 (a_ii 1 (fun x y => x + y))) (t_l 25 (a_ild 0))) (t_n 29 (t_l 26 (a_goto 30)) (t_n 30 (t_l 29 (a_push 1 (.int 1))) (t_l 30 a_iret))))))
set_option maxRecDepth 100000 in
theorem k_X6_align (sc : Nat × (Nat → Int32)) (d : Nat) : ∀ pc, ev_Ok cX6_align 3 [] RX6 lw_g lw_n (lw_q sc) vwCl false (ev_CO mt lw_g lw_n (lw_q sc) vwCl d) pc (g_X6_align pc) := (ok_t_n (ok_t_n (ok_t_n (ok_t_n (ok_t_l (ok_aload_n dX6_align_0 rfl)) (ok_t_l (ok_iload_n dX6_align_1 rfl))) (ok_t_n (ok_t_l (ok_inv (run_V (y := 88) (n := 1) (ci := 6) dX6_align_2 cz_88 gdG cc_88 ci_88 w_207 cm_88 cs_88 cd_88 cl_88 rfl rfl))) (ok_t_l (ok_if_eq dX6_align_5 rfl)))) (ok_t_n (ok_t_n (ok_t_l (ok_iload_n dX6_align_8 rfl)) (ok_t_l (ok_inv (run_SN (y := 193) (n := 1) dX6_align_9 cz_193 gdG cc_193 ci_193 nst_0 cm_193 cd_193 cl_193)))) (ok_t_n (ok_t_l (ok_if_eq dX6_align_12 rfl)) (ok_t_n (ok_t_l (ok_aload_n dX6_align_15 rfl)) (ok_t_l (ok_getfield dX6_align_16 (ci := 6) (kf := 7) rfl inGX6 (by decide) w_973)))))) (ok_t_n (ok_t_n (ok_t_n (ok_t_l (ok_iload_n dX6_align_19 rfl)) (ok_t_l (ok_bipush dX6_align_20 rfl))) (ok_t_n (ok_t_l (ok_imul dX6_align_22)) (ok_t_l (ok_iload_n dX6_align_23 rfl)))) (ok_t_n (ok_t_n (ok_t_l (ok_iadd dX6_align_24)) (ok_t_l (ok_iaload dX6_align_25))) (ok_t_n (ok_t_l (ok_goto dX6_align_26 rfl)) (ok_t_n (ok_t_l (ok_iconst dX6_align_29 rfl)) (ok_t_l (ok_ireturn dX6_align_30)))))))
theorem dX6_isHidden_0 : decode cX6_isHidden 0 = .ok (.aload_n 0, 1) := by decide +kernel
theorem dX6_isHidden_1 : decode cX6_isHidden 1 = .ok (.iload_n 1, 1) := by decide +kernel
theorem dX6_isHidden_2 : decode cX6_isHidden 2 = .ok (.invokevirtual 43, 3) := by decide +kernel
theorem dX6_isHidden_5 : decode cX6_isHidden 5 = .ok (.ifCond .eq 20, 3) := by decide +kernel
theorem dX6_isHidden_8 : decode cX6_isHidden 8 = .ok (.aload_n 0, 1) := by decide +kernel
theorem dX6_isHidden_9 : decode cX6_isHidden 9 = .ok (.getfield 36, 3) := by decide +kernel
theorem dX6_isHidden_12 : decode cX6_isHidden 12 = .ok (.iload_n 1, 1) := by decide +kernel
theorem dX6_isHidden_13 : decode cX6_isHidden 13 = .ok (.iaload, 1) := by decide +kernel
theorem dX6_isHidden_14 : decode cX6_isHidden 14 = .ok (.iload_n 2, 1) := by decide +kernel
theorem dX6_isHidden_15 : decode cX6_isHidden 15 = .ok (.invokestatic 54, 3) := by decide +kernel
theorem dX6_isHidden_18 : decode cX6_isHidden 18 = .ok (.ifCond .eq 7, 3) := by decide +kernel
theorem dX6_isHidden_21 : decode cX6_isHidden 21 = .ok (.iconst 1, 1) := by decide +kernel
theorem dX6_isHidden_22 : decode cX6_isHidden 22 = .ok (.goto 4, 3) := by decide +kernel
theorem dX6_isHidden_25 : decode cX6_isHidden 25 = .ok (.iconst 0, 1) := by decide +kernel
theorem dX6_isHidden_26 : decode cX6_isHidden 26 = .ok (.ireturn, 1) := by decide +kernel
def g_X6_isHidden : Nat → EA := (t_n 13 (t_n 5 (t_n 1 (t_l 0 (a_aload 1 0)) (t_n 2 (t_l 1 (a_iload 1 1)) (t_l 2 (a_inv true 88 2 (some 6))))) (t_n 9 (t_n 8 (t_l 5 (a_if 25 (fun x => decide (x = 0)))) (t_l 8 (a_aload 1 0))) (t_n 12 (t_l 9 (a_getf 6 8)) (t_l 12 (a_iload 1 1))))) (t_n 21 (t_n 15 (t_n 14 (t_l 13 (a_ild 0)) (t_l 14 (a_iload 1 2))) (t_n 18 (t_l 15 (a_inv false 196 2 none)) (t_l 18 (a_if 25 (fun x => decide (x = 0)))))) (t_n 25 (t_n 22 (t_l 21 (a_push 1 (.int 1))) (t_l 22 (a_goto 26))) (t_n 26 (t_l 25 (a_push 1 (.int 0))) (t_l 26 a_iret)))))
set_option maxRecDepth 100000 in
theorem k_X6_isHidden (sc : Nat × (Nat → Int32)) (d : Nat) : ∀ pc, ev_Ok cX6_isHidden 3 [] RX6 lw_g lw_n (lw_q sc) vwCl false (ev_CO mt lw_g lw_n (lw_q sc) vwCl d) pc (g_X6_isHidden pc) := (ok_t_n (ok_t_n (ok_t_n (ok_t_l (ok_aload_n dX6_isHidden_0 rfl)) (ok_t_n (ok_t_l (ok_iload_n dX6_isHidden_1 rfl)) (ok_t_l (ok_inv (run_V (y := 88) (n := 1) (ci := 6) dX6_isHidden_2 cz_88 gdG cc_88 ci_88 w_207 cm_88 cs_88 cd_88 cl_88 rfl rfl))))) (ok_t_n (ok_t_n (ok_t_l (ok_if_eq dX6_isHidden_5 rfl)) (ok_t_l (ok_aload_n dX6_isHidden_8 rfl))) (ok_t_n (ok_t_l (ok_getfield dX6_isHidden_9 (ci := 6) (kf := 8) rfl inGX6 (by decide) w_974)) (ok_t_l (ok_iload_n dX6_isHidden_12 rfl))))) (ok_t_n (ok_t_n (ok_t_n (ok_t_l (ok_iaload dX6_isHidden_13)) (ok_t_l (ok_iload_n dX6_isHidden_14 rfl))) (ok_t_n (ok_t_l (ok_inv (run_SN (y := 196) (n := 2) dX6_isHidden_15 cz_196 gdG cc_196 ci_196 nst_1 cm_196 cd_196 cl_196))) (ok_t_l (ok_if_eq dX6_isHidden_18 rfl)))) (ok_t_n (ok_t_n (ok_t_l (ok_iconst dX6_isHidden_21 rfl)) (ok_t_l (ok_goto dX6_isHidden_22 rfl))) (ok_t_n (ok_t_l (ok_iconst dX6_isHidden_25 rfl)) (ok_t_l (ok_ireturn dX6_isHidden_26))))))
theorem dX7_init_0 : decode cX7_init 0 = .ok (.aload_n 0, 1) := by decide +kernel
theorem dX7_init_1 : decode cX7_init 1 = .ok (.invokespecial 3, 3) := by decide +kernel
theorem dX7_init_4 : decode cX7_init 4 = .ok (.aload_n 0, 1) := by decide +kernel
theorem dX7_init_5 : decode cX7_init 5 = .ok (.bipush 24, 2) := by decide +kernel
theorem dX7_init_7 : decode cX7_init 7 = .ok (.newarray .int, 2) := by decide +kernel
theorem dX7_init_9 : decode cX7_init 9 = .ok (.putfield 9, 3) := by decide +kernel
theorem dX7_init_12 : decode cX7_init 12 = .ok (.aload_n 0, 1) := by decide +kernel
theorem dX7_init_13 : decode cX7_init 13 = .ok (.iconst 0, 1) := by decide +kernel
theorem dX7_init_14 : decode cX7_init 14 = .ok (.putfield 15, 3) := by decide +kernel
theorem dX7_init_17 : decode cX7_init 17 = .ok (.aload_n 0, 1) := by decide +kernel
theorem dX7_init_18 : decode cX7_init 18 = .ok (.iconst 0, 1) := by decide +kernel
theorem dX7_init_19 : decode cX7_init 19 = .ok (.putfield 19, 3) := by decide +kernel
theorem dX7_init_22 : decode cX7_init 22 = .ok (.aload_n 0, 1) := by decide +kernel
theorem dX7_init_23 : decode cX7_init 23 = .ok (.iconst 0, 1) := by decide +kernel
theorem dX7_init_24 : decode cX7_init 24 = .ok (.putfield 22, 3) := by decide +kernel
theorem dX7_init_27 : decode cX7_init 27 = .ok (.aload_n 0, 1) := by decide +kernel
theorem dX7_init_28 : decode cX7_init 28 = .ok (.iconst 0, 1) := by decide +kernel
theorem dX7_init_29 : decode cX7_init 29 = .ok (.putfield 25, 3) := by decide +kernel
theorem dX7_init_32 : decode cX7_init 32 = .ok (.aload_n 0, 1) := by decide +kernel
theorem dX7_init_33 : decode cX7_init 33 = .ok (.bipush 20, 2) := by decide +kernel
theorem dX7_init_35 : decode cX7_init 35 = .ok (.newarray .int, 2) := by decide +kernel
theorem dX7_init_37 : decode cX7_init 37 = .ok (.putfield 28, 3) := by decide +kernel
theorem dX7_init_40 : decode cX7_init 40 = .ok (.aload_n 0, 1) := by decide +kernel
theorem dX7_init_41 : decode cX7_init 41 = .ok (.aload_n 1, 1) := by decide +kernel
theorem dX7_init_42 : decode cX7_init 42 = .ok (.putfield 31, 3) := by decide +kernel
theorem dX7_init_45 : decode cX7_init 45 = .ok (.aload_n 0, 1) := by decide +kernel
theorem dX7_init_46 : decode cX7_init 46 = .ok (.aload_n 2, 1) := by decide +kernel
theorem dX7_init_47 : decode cX7_init 47 = .ok (.putfield 35, 3) := by decide +kernel
theorem dX7_init_50 : decode cX7_init 50 = .ok (.aload_n 0, 1) := by decide +kernel
theorem dX7_init_51 : decode cX7_init 51 = .ok (.aload_n 3, 1) := by decide +kernel
theorem dX7_init_52 : decode cX7_init 52 = .ok (.putfield 39, 3) := by decide +kernel
theorem dX7_init_55 : decode cX7_init 55 = .ok (.return_, 1) := by decide +kernel
def g_X7_init : Nat → EA := (t_n 28 (t_n 14 (t_n 7 (t_n 4 (t_n 1 (t_l 0 (a_aload 1 0)) (t_l 1 a_objI)) (t_n 5 (t_l 4 (a_aload 1 0)) (t_l 5 (a_push 2 (.int 24))))) (t_n 12 (t_n 9 (t_l 7 (a_newa 0)) (t_l 9 (a_putf 9 7 3))) (t_n 13 (t_l 12 (a_aload 1 0)) (t_l 13 (a_push 1 (.int 0)))))) (t_n 22 (t_n 18 (t_n 17 (t_l 14 (a_putf 0 7 4)) (t_l 17 (a_aload 1 0))) (t_n 19 (t_l 18 (a_push 1 (.int 0))) (t_l 19 (a_putf 0 7 5)))) (t_n 24 (t_n 23 (t_l 22 (a_aload 1 0)) (t_l 23 (a_push 1 (.int 0)))) (t_n 27 (t_l 24 (a_putf 0 7 6)) (t_l 27 (a_aload 1 0)))))) (t_n 42 (t_n 35 (t_n 32 (t_n 29 (t_l 28 (a_push 1 (.int 0))) (t_l 29 (a_putf 0 7 7))) (t_n 33 (t_l 32 (a_aload 1 0)) (t_l 33 (a_push 2 (.int 20))))) (t_n 40 (t_n 37 (t_l 35 (a_newa 0)) (t_l 37 (a_putf 9 7 8))) (t_n 41 (t_l 40 (a_aload 1 0)) (t_l 41 (a_aload 1 1))))) (t_n 50 (t_n 46 (t_n 45 (t_l 42 (a_putf 9 7 0)) (t_l 45 (a_aload 1 0))) (t_n 47 (t_l 46 (a_aload 1 2)) (t_l 47 (a_putf 9 7 1)))) (t_n 52 (t_n 51 (t_l 50 (a_aload 1 0)) (t_l 51 (a_aload 1 3))) (t_n 55 (t_l 52 (a_putf 9 7 2)) (t_l 55 a_vret))))))
set_option maxRecDepth 100000 in
theorem k_X7_init (sc : Nat × (Nat → Int32)) (d : Nat) : ∀ pc, ev_Ok cX7_init 4 [] RX7 lw_g lw_n (lw_q sc) vwCl true (ev_CO mt lw_g lw_n (lw_q sc) vwCl d) pc (g_X7_init pc) := (ok_t_n (ok_t_n (ok_t_n (ok_t_n (ok_t_n (ok_t_l (ok_aload_n dX7_init_0 rfl)) (ok_t_l (ok_objinit dX7_init_1 w_1196 w_94 w_obj ev_CO.small))) (ok_t_n (ok_t_l (ok_aload_n dX7_init_4 rfl)) (ok_t_l (ok_bipush dX7_init_5 rfl)))) (ok_t_n (ok_t_n (ok_t_l (ok_newint dX7_init_7 w_614)) (ok_t_l (ok_putfieldF dX7_init_9 (ci := 7) (kf := 3) rfl inGX7 (by decide) tyX7_ok nmX7 rfl w_1200 rfl rfl rfl))) (ok_t_n (ok_t_l (ok_aload_n dX7_init_12 rfl)) (ok_t_l (ok_iconst dX7_init_13 rfl))))) (ok_t_n (ok_t_n (ok_t_n (ok_t_l (ok_putfield dX7_init_14 (ci := 7) (kf := 4) rfl inGX7 (by decide) tyX7_ok nmX7 rfl w_1201 rfl)) (ok_t_l (ok_aload_n dX7_init_17 rfl))) (ok_t_n (ok_t_l (ok_iconst dX7_init_18 rfl)) (ok_t_l (ok_putfield dX7_init_19 (ci := 7) (kf := 5) rfl inGX7 (by decide) tyX7_ok nmX7 rfl w_1202 rfl)))) (ok_t_n (ok_t_n (ok_t_l (ok_aload_n dX7_init_22 rfl)) (ok_t_l (ok_iconst dX7_init_23 rfl))) (ok_t_n (ok_t_l (ok_putfield dX7_init_24 (ci := 7) (kf := 6) rfl inGX7 (by decide) tyX7_ok nmX7 rfl w_1203 rfl)) (ok_t_l (ok_aload_n dX7_init_27 rfl)))))) (ok_t_n (ok_t_n (ok_t_n (ok_t_n (ok_t_l (ok_iconst dX7_init_28 rfl)) (ok_t_l (ok_putfield dX7_init_29 (ci := 7) (kf := 7) rfl inGX7 (by decide) tyX7_ok nmX7 rfl w_1204 rfl))) (ok_t_n (ok_t_l (ok_aload_n dX7_init_32 rfl)) (ok_t_l (ok_bipush dX7_init_33 rfl)))) (ok_t_n (ok_t_n (ok_t_l (ok_newint dX7_init_35 w_614)) (ok_t_l (ok_putfieldF dX7_init_37 (ci := 7) (kf := 8) rfl inGX7 (by decide) tyX7_ok nmX7 rfl w_1205 rfl rfl rfl))) (ok_t_n (ok_t_l (ok_aload_n dX7_init_40 rfl)) (ok_t_l (ok_aload_n dX7_init_41 rfl))))) (ok_t_n (ok_t_n (ok_t_n (ok_t_l (ok_putfieldF dX7_init_42 (ci := 7) (kf := 0) rfl inGX7 (by decide) tyX7_ok nmX7 rfl w_1197 rfl rfl rfl)) (ok_t_l (ok_aload_n dX7_init_45 rfl))) (ok_t_n (ok_t_l (ok_aload_n dX7_init_46 rfl)) (ok_t_l (ok_putfieldF dX7_init_47 (ci := 7) (kf := 1) rfl inGX7 (by decide) tyX7_ok nmX7 rfl w_1198 rfl rfl rfl)))) (ok_t_n (ok_t_n (ok_t_l (ok_aload_n dX7_init_50 rfl)) (ok_t_l (ok_aload_n dX7_init_51 rfl))) (ok_t_n (ok_t_l (ok_putfieldF dX7_init_52 (ci := 7) (kf := 2) rfl inGX7 (by decide) tyX7_ok nmX7 rfl w_1199 rfl rfl rfl)) (ok_t_l (ok_vreturn dX7_init_55)))))))
theorem dX7_hasSection_0 : decode cX7_hasSection 0 = .ok (.iload_n 1, 1) := by decide +kernel
theorem dX7_hasSection_1 : decode cX7_hasSection 1 = .ok (.bipush 24, 2) := by decide +kernel
theorem dX7_hasSection_3 : decode cX7_hasSection 3 = .ok (.invokestatic 43, 3) := by decide +kernel
theorem dX7_hasSection_6 : decode cX7_hasSection 6 = .ok (.ifCond .eq 18, 3) := by decide +kernel
theorem dX7_hasSection_9 : decode cX7_hasSection 9 = .ok (.aload_n 0, 1) := by decide +kernel
theorem dX7_hasSection_10 : decode cX7_hasSection 10 = .ok (.getfield 19, 3) := by decide +kernel
theorem dX7_hasSection_13 : decode cX7_hasSection 13 = .ok (.iload_n 1, 1) := by decide +kernel
theorem dX7_hasSection_14 : decode cX7_hasSection 14 = .ok (.invokestatic 47, 3) := by decide +kernel
theorem dX7_hasSection_17 : decode cX7_hasSection 17 = .ok (.ifCond .eq 7, 3) := by decide +kernel
theorem dX7_hasSection_20 : decode cX7_hasSection 20 = .ok (.iconst 1, 1) := by decide +kernel
theorem dX7_hasSection_21 : decode cX7_hasSection 21 = .ok (.goto 4, 3) := by decide +kernel
theorem dX7_hasSection_24 : decode cX7_hasSection 24 = .ok (.iconst 0, 1) := by decide +kernel
theorem dX7_hasSection_25 : decode cX7_hasSection 25 = .ok (.ireturn, 1) := by decide +kernel
def g_X7_hasSection : Nat → EA := (t_n 13 (t_n 6 (t_n 1 (t_l 0 (a_iload 1 1)) (t_n 3 (t_l 1 (a_push 2 (.int 24))) (t_l 3 (a_inv false 192 2 none)))) (t_n 9 (t_l 6 (a_if 24 (fun x => decide (x = 0)))) (t_n 10 (t_l 9 (a_aload 1 0)) (t_l 10 (a_getf 7 5))))) (t_n 20 (t_n 14 (t_l 13 (a_iload 1 1)) (t_n 17 (t_l 14 (a_inv false 196 2 none)) (t_l 17 (a_if 24 (fun x => decide (x = 0)))))) (t_n 24 (t_n 21 (t_l 20 (a_push 1 (.int 1))) (t_l 21 (a_goto 25))) (t_n 25 (t_l 24 (a_push 1 (.int 0))) (t_l 25 a_iret)))))
set_option maxRecDepth 100000 in
theorem k_X7_hasSection (sc : Nat × (Nat → Int32)) (d : Nat) : ∀ pc, ev_Ok cX7_hasSection 2 [] RX7 lw_g lw_n (lw_q sc) vwCl false (ev_CO mt lw_g lw_n (lw_q sc) vwCl d) pc (g_X7_hasSection pc) := (ok_t_n (ok_t_n (ok_t_n (ok_t_l (ok_iload_n dX7_hasSection_0 rfl)) (ok_t_n (ok_t_l (ok_bipush dX7_hasSection_1 rfl)) (ok_t_l (ok_inv (run_SN (y := 192) (n := 2) dX7_hasSection_3 cz_192 gdG cc_192 ci_192 nst_6 cm_192 cd_192 cl_192))))) (ok_t_n (ok_t_l (ok_if_eq dX7_hasSection_6 rfl)) (ok_t_n (ok_t_l (ok_aload_n dX7_hasSection_9 rfl)) (ok_t_l (ok_getfield dX7_hasSection_10 (ci := 7) (kf := 5) rfl inGX7 (by decide) w_1202))))) (ok_t_n (ok_t_n (ok_t_l (ok_iload_n dX7_hasSection_13 rfl)) (ok_t_n (ok_t_l (ok_inv (run_SN (y := 196) (n := 2) dX7_hasSection_14 cz_196 gdG cc_196 ci_196 nst_7 cm_196 cd_196 cl_196))) (ok_t_l (ok_if_eq dX7_hasSection_17 rfl)))) (ok_t_n (ok_t_n (ok_t_l (ok_iconst dX7_hasSection_20 rfl)) (ok_t_l (ok_goto dX7_hasSection_21 rfl))) (ok_t_n (ok_t_l (ok_iconst dX7_hasSection_24 rfl)) (ok_t_l (ok_ireturn dX7_hasSection_25))))))
theorem dX7_hasCommon_0 : decode cX7_hasCommon 0 = .ok (.iload_n 1, 1) := by decide +kernel
theorem dX7_hasCommon_1 : decode cX7_hasCommon 1 = .ok (.invokestatic 50, 3) := by decide +kernel
theorem dX7_hasCommon_4 : decode cX7_hasCommon 4 = .ok (.ifCond .eq 18, 3) := by decide +kernel
theorem dX7_hasCommon_7 : decode cX7_hasCommon 7 = .ok (.aload_n 0, 1) := by decide +kernel
theorem dX7_hasCommon_8 : decode cX7_hasCommon 8 = .ok (.getfield 22, 3) := by decide +kernel
theorem dX7_hasCommon_11 : decode cX7_hasCommon 11 = .ok (.iload_n 1, 1) := by decide +kernel
theorem dX7_hasCommon_12 : decode cX7_hasCommon 12 = .ok (.invokestatic 47, 3) := by decide +kernel
theorem dX7_hasCommon_15 : decode cX7_hasCommon 15 = .ok (.ifCond .eq 7, 3) := by decide +kernel
theorem dX7_hasCommon_18 : decode cX7_hasCommon 18 = .ok (.iconst 1, 1) := by decide +kernel
theorem dX7_hasCommon_19 : decode cX7_hasCommon 19 = .ok (.goto 4, 3) := by decide +kernel
theorem dX7_hasCommon_22 : decode cX7_hasCommon 22 = .ok (.iconst 0, 1) := by decide +kernel
theorem dX7_hasCommon_23 : decode cX7_hasCommon 23 = .ok (.ireturn, 1) := by decide +kernel
def g_X7_hasCommon : Nat → EA := (t_n 12 (t_n 7 (t_n 1 (t_l 0 (a_iload 1 1)) (t_n 4 (t_l 1 (a_inv false 193 1 none)) (t_l 4 (a_if 22 (fun x => decide (x = 0)))))) (t_n 8 (t_l 7 (a_aload 1 0)) (t_n 11 (t_l 8 (a_getf 7 6)) (t_l 11 (a_iload 1 1))))) (t_n 19 (t_n 15 (t_l 12 (a_inv false 196 2 none)) (t_n 18 (t_l 15 (a_if 22 (fun x => decide (x = 0)))) (t_l 18 (a_push 1 (.int 1))))) (t_n 22 (t_l 19 (a_goto 23)) (t_n 23 (t_l 22 (a_push 1 (.int 0))) (t_l 23 a_iret)))))
set_option maxRecDepth 100000 in
theorem k_X7_hasCommon (sc : Nat × (Nat → Int32)) (d : Nat) : ∀ pc, ev_Ok cX7_hasCommon 2 [] RX7 lw_g lw_n (lw_q sc) vwCl false (ev_CO mt lw_g lw_n (lw_q sc) vwCl d) pc (g_X7_hasCommon pc) := (ok_t_n (ok_t_n (ok_t_n (ok_t_l (ok_iload_n dX7_hasCommon_0 rfl)) (ok_t_n (ok_t_l (ok_inv (run_SN (y := 193) (n := 1) dX7_hasCommon_1 cz_193 gdG cc_193 ci_193 nst_9 cm_193 cd_193 cl_193))) (ok_t_l (ok_if_eq dX7_hasCommon_4 rfl)))) (ok_t_n (ok_t_l (ok_aload_n dX7_hasCommon_7 rfl)) (ok_t_n (ok_t_l (ok_getfield dX7_hasCommon_8 (ci := 7) (kf := 6) rfl inGX7 (by decide) w_1203)) (ok_t_l (ok_iload_n dX7_hasCommon_11 rfl))))) (ok_t_n (ok_t_n (ok_t_l (ok_inv (run_SN (y := 196) (n := 2) dX7_hasCommon_12 cz_196 gdG cc_196 ci_196 nst_7 cm_196 cd_196 cl_196))) (ok_t_n (ok_t_l (ok_if_eq dX7_hasCommon_15 rfl)) (ok_t_l (ok_iconst dX7_hasCommon_18 rfl)))) (ok_t_n (ok_t_l (ok_goto dX7_hasCommon_19 rfl)) (ok_t_n (ok_t_l (ok_iconst dX7_hasCommon_22 rfl)) (ok_t_l (ok_ireturn dX7_hasCommon_23))))))
theorem dX7_countSections_0 : decode cX7_countSections 0 = .ok (.aload_n 0, 1) := by decide +kernel
theorem dX7_countSections_1 : decode cX7_countSections 1 = .ok (.getfield 15, 3) := by decide +kernel
theorem dX7_countSections_4 : decode cX7_countSections 4 = .ok (.ireturn, 1) := by decide +kernel
def g_X7_countSections : Nat → EA := (t_n 1 (t_l 0 (a_aload 1 0)) (t_n 4 (t_l 1 (a_getf 7 4)) (t_l 4 a_iret)))
set_option maxRecDepth 100000 in
theorem k_X7_countSections (sc : Nat × (Nat → Int32)) (d : Nat) : ∀ pc, ev_Ok cX7_countSections 1 [] RX7 lw_g lw_n (lw_q sc) vwCl false (ev_CO mt lw_g lw_n (lw_q sc) vwCl d) pc (g_X7_countSections pc) := (ok_t_n (ok_t_l (ok_aload_n dX7_countSections_0 rfl)) (ok_t_n (ok_t_l (ok_getfield dX7_countSections_1 (ci := 7) (kf := 4) rfl inGX7 (by decide) w_1201)) (ok_t_l (ok_ireturn dX7_countSections_4))))
theorem dX7_imports_0 : decode cX7_imports 0 = .ok (.aload_n 0, 1) := by decide +kernel
theorem dX7_imports_1 : decode cX7_imports 1 = .ok (.getfield 25, 3) := by decide +kernel
theorem dX7_imports_4 : decode cX7_imports 4 = .ok (.ireturn, 1) := by decide +kernel
def g_X7_imports : Nat → EA := (t_n 1 (t_l 0 (a_aload 1 0)) (t_n 4 (t_l 1 (a_getf 7 7)) (t_l 4 a_iret)))
set_option maxRecDepth 100000 in
theorem k_X7_imports (sc : Nat × (Nat → Int32)) (d : Nat) : ∀ pc, ev_Ok cX7_imports 1 [] RX7 lw_g lw_n (lw_q sc) vwCl false (ev_CO mt lw_g lw_n (lw_q sc) vwCl d) pc (g_X7_imports pc) := (ok_t_n (ok_t_l (ok_aload_n dX7_imports_0 rfl)) (ok_t_n (ok_t_l (ok_getfield dX7_imports_1 (ci := 7) (kf := 7) rfl inGX7 (by decide) w_1204)) (ok_t_l (ok_ireturn dX7_imports_4))))
theorem dX7_isImport_0 : decode cX7_isImport 0 = .ok (.iload_n 1, 1) := by decide +kernel
theorem dX7_isImport_1 : decode cX7_isImport 1 = .ok (.invokestatic 50, 3) := by decide +kernel
theorem dX7_isImport_4 : decode cX7_isImport 4 = .ok (.ifCond .eq 18, 3) := by decide +kernel
theorem dX7_isImport_7 : decode cX7_isImport 7 = .ok (.aload_n 0, 1) := by decide +kernel
theorem dX7_isImport_8 : decode cX7_isImport 8 = .ok (.getfield 25, 3) := by decide +kernel
theorem dX7_isImport_11 : decode cX7_isImport 11 = .ok (.iload_n 1, 1) := by decide +kernel
theorem dX7_isImport_12 : decode cX7_isImport 12 = .ok (.invokestatic 47, 3) := by decide +kernel
theorem dX7_isImport_15 : decode cX7_isImport 15 = .ok (.ifCond .eq 7, 3) := by decide +kernel
theorem dX7_isImport_18 : decode cX7_isImport 18 = .ok (.iconst 1, 1) := by decide +kernel
theorem dX7_isImport_19 : decode cX7_isImport 19 = .ok (.goto 4, 3) := by decide +kernel
theorem dX7_isImport_22 : decode cX7_isImport 22 = .ok (.iconst 0, 1) := by decide +kernel
theorem dX7_isImport_23 : decode cX7_isImport 23 = .ok (.ireturn, 1) := by decide +kernel
def g_X7_isImport : Nat → EA := (t_n 12 (t_n 7 (t_n 1 (t_l 0 (a_iload 1 1)) (t_n 4 (t_l 1 (a_inv false 193 1 none)) (t_l 4 (a_if 22 (fun x => decide (x = 0)))))) (t_n 8 (t_l 7 (a_aload 1 0)) (t_n 11 (t_l 8 (a_getf 7 7)) (t_l 11 (a_iload 1 1))))) (t_n 19 (t_n 15 (t_l 12 (a_inv false 196 2 none)) (t_n 18 (t_l 15 (a_if 22 (fun x => decide (x = 0)))) (t_l 18 (a_push 1 (.int 1))))) (t_n 22 (t_l 19 (a_goto 23)) (t_n 23 (t_l 22 (a_push 1 (.int 0))) (t_l 23 a_iret)))))
set_option maxRecDepth 100000 in
theorem k_X7_isImport (sc : Nat × (Nat → Int32)) (d : Nat) : ∀ pc, ev_Ok cX7_isImport 2 [] RX7 lw_g lw_n (lw_q sc) vwCl false (ev_CO mt lw_g lw_n (lw_q sc) vwCl d) pc (g_X7_isImport pc) := (ok_t_n (ok_t_n (ok_t_n (ok_t_l (ok_iload_n dX7_isImport_0 rfl)) (ok_t_n (ok_t_l (ok_inv (run_SN (y := 193) (n := 1) dX7_isImport_1 cz_193 gdG cc_193 ci_193 nst_9 cm_193 cd_193 cl_193))) (ok_t_l (ok_if_eq dX7_isImport_4 rfl)))) (ok_t_n (ok_t_l (ok_aload_n dX7_isImport_7 rfl)) (ok_t_n (ok_t_l (ok_getfield dX7_isImport_8 (ci := 7) (kf := 7) rfl inGX7 (by decide) w_1204)) (ok_t_l (ok_iload_n dX7_isImport_11 rfl))))) (ok_t_n (ok_t_n (ok_t_l (ok_inv (run_SN (y := 196) (n := 2) dX7_isImport_12 cz_196 gdG cc_196 ci_196 nst_7 cm_196 cd_196 cl_196))) (ok_t_n (ok_t_l (ok_if_eq dX7_isImport_15 rfl)) (ok_t_l (ok_iconst dX7_isImport_18 rfl)))) (ok_t_n (ok_t_l (ok_goto dX7_isImport_19 rfl)) (ok_t_n (ok_t_l (ok_iconst dX7_isImport_22 rfl)) (ok_t_l (ok_ireturn dX7_isImport_23))))))
theorem dX7_references_0 : decode cX7_references 0 = .ok (.iload_n 1, 1) := by decide +kernel
theorem dX7_references_1 : decode cX7_references 1 = .ok (.invokestatic 50, 3) := by decide +kernel
theorem dX7_references_4 : decode cX7_references 4 = .ok (.ifCond .eq 12, 3) := by decide +kernel
theorem dX7_references_7 : decode cX7_references 7 = .ok (.aload_n 0, 1) := by decide +kernel
theorem dX7_references_8 : decode cX7_references 8 = .ok (.getfield 28, 3) := by decide +kernel
theorem dX7_references_11 : decode cX7_references 11 = .ok (.iload_n 1, 1) := by decide +kernel
theorem dX7_references_12 : decode cX7_references 12 = .ok (.iaload, 1) := by decide +kernel
theorem dX7_references_13 : decode cX7_references 13 = .ok (.goto 4, 3) := by decide +kernel
theorem dX7_references_16 : decode cX7_references 16 = .ok (.iconst 0, 1) := by decide +kernel
theorem dX7_references_17 : decode cX7_references 17 = .ok (.ireturn, 1) := by decide +kernel
def g_X7_references : Nat → EA := (t_n 11 (t_n 4 (t_n 1 (t_l 0 (a_iload 1 1)) (t_l 1 (a_inv false 193 1 none))) (t_n 7 (t_l 4 (a_if 16 (fun x => decide (x = 0)))) (t_n 8 (t_l 7 (a_aload 1 0)) (t_l 8 (a_getf 7 8))))) (t_n 13 (t_n 12 (t_l 11 (a_iload 1 1)) (t_l 12 (a_ild 0))) (t_n 16 (t_l 13 (a_goto 17)) (t_n 17 (t_l 16 (a_push 1 (.int 0))) (t_l 17 a_iret)))))
set_option maxRecDepth 100000 in
theorem k_X7_references (sc : Nat × (Nat → Int32)) (d : Nat) : ∀ pc, ev_Ok cX7_references 2 [] RX7 lw_g lw_n (lw_q sc) vwCl false (ev_CO mt lw_g lw_n (lw_q sc) vwCl d) pc (g_X7_references pc) := (ok_t_n (ok_t_n (ok_t_n (ok_t_l (ok_iload_n dX7_references_0 rfl)) (ok_t_l (ok_inv (run_SN (y := 193) (n := 1) dX7_references_1 cz_193 gdG cc_193 ci_193 nst_9 cm_193 cd_193 cl_193)))) (ok_t_n (ok_t_l (ok_if_eq dX7_references_4 rfl)) (ok_t_n (ok_t_l (ok_aload_n dX7_references_7 rfl)) (ok_t_l (ok_getfield dX7_references_8 (ci := 7) (kf := 8) rfl inGX7 (by decide) w_1205))))) (ok_t_n (ok_t_n (ok_t_l (ok_iload_n dX7_references_11 rfl)) (ok_t_l (ok_iaload dX7_references_12))) (ok_t_n (ok_t_l (ok_goto dX7_references_13 rfl)) (ok_t_n (ok_t_l (ok_iconst dX7_references_16 rfl)) (ok_t_l (ok_ireturn dX7_references_17))))))
theorem dX7_reachAll_0 : decode cX7_reachAll 0 = .ok (.aload_n 0, 1) := by decide +kernel
theorem dX7_reachAll_1 : decode cX7_reachAll 1 = .ok (.invokevirtual 54, 3) := by decide +kernel
theorem dX7_reachAll_4 : decode cX7_reachAll 4 = .ok (.iconst 0, 1) := by decide +kernel
theorem dX7_reachAll_5 : decode cX7_reachAll 5 = .ok (.istore_n 3, 1) := by decide +kernel
theorem dX7_reachAll_6 : decode cX7_reachAll 6 = .ok (.iload_n 3, 1) := by decide +kernel
theorem dX7_reachAll_7 : decode cX7_reachAll 7 = .ok (.aload_n 0, 1) := by decide +kernel
theorem dX7_reachAll_8 : decode cX7_reachAll 8 = .ok (.getfield 31, 3) := by decide +kernel
theorem dX7_reachAll_11 : decode cX7_reachAll 11 = .ok (.invokevirtual 57, 3) := by decide +kernel
theorem dX7_reachAll_14 : decode cX7_reachAll 14 = .ok (.if_icmp .ge 43, 3) := by decide +kernel
theorem dX7_reachAll_17 : decode cX7_reachAll 17 = .ok (.aload_n 0, 1) := by decide +kernel
theorem dX7_reachAll_18 : decode cX7_reachAll 18 = .ok (.getfield 31, 3) := by decide +kernel
theorem dX7_reachAll_21 : decode cX7_reachAll 21 = .ok (.iload_n 3, 1) := by decide +kernel
theorem dX7_reachAll_22 : decode cX7_reachAll 22 = .ok (.invokevirtual 63, 3) := by decide +kernel
theorem dX7_reachAll_25 : decode cX7_reachAll 25 = .ok (.ifCond .eq 26, 3) := by decide +kernel
theorem dX7_reachAll_28 : decode cX7_reachAll 28 = .ok (.aload_n 0, 1) := by decide +kernel
theorem dX7_reachAll_29 : decode cX7_reachAll 29 = .ok (.getfield 35, 3) := by decide +kernel
theorem dX7_reachAll_32 : decode cX7_reachAll 32 = .ok (.aload_n 0, 1) := by decide +kernel
theorem dX7_reachAll_33 : decode cX7_reachAll 33 = .ok (.getfield 31, 3) := by decide +kernel
theorem dX7_reachAll_36 : decode cX7_reachAll 36 = .ok (.iload_n 3, 1) := by decide +kernel
theorem dX7_reachAll_37 : decode cX7_reachAll 37 = .ok (.invokevirtual 66, 3) := by decide +kernel
theorem dX7_reachAll_40 : decode cX7_reachAll 40 = .ok (.invokevirtual 70, 3) := by decide +kernel
theorem dX7_reachAll_43 : decode cX7_reachAll 43 = .ok (.ifCond .eq 8, 3) := by decide +kernel
theorem dX7_reachAll_46 : decode cX7_reachAll 46 = .ok (.aload_n 0, 1) := by decide +kernel
theorem dX7_reachAll_47 : decode cX7_reachAll 47 = .ok (.iload_n 3, 1) := by decide +kernel
theorem dX7_reachAll_48 : decode cX7_reachAll 48 = .ok (.invokevirtual 75, 3) := by decide +kernel
theorem dX7_reachAll_51 : decode cX7_reachAll 51 = .ok (.iinc 3 1, 3) := by decide +kernel
theorem dX7_reachAll_54 : decode cX7_reachAll 54 = .ok (.goto (-48), 3) := by decide +kernel
theorem dX7_reachAll_57 : decode cX7_reachAll 57 = .ok (.aload_n 0, 1) := by decide +kernel
theorem dX7_reachAll_58 : decode cX7_reachAll 58 = .ok (.iload_n 1, 1) := by decide +kernel
theorem dX7_reachAll_59 : decode cX7_reachAll 59 = .ok (.invokevirtual 79, 3) := by decide +kernel
theorem dX7_reachAll_62 : decode cX7_reachAll 62 = .ok (.iconst 0, 1) := by decide +kernel
theorem dX7_reachAll_63 : decode cX7_reachAll 63 = .ok (.istore_n 3, 1) := by decide +kernel
theorem dX7_reachAll_64 : decode cX7_reachAll 64 = .ok (.iload_n 2, 1) := by decide +kernel
theorem dX7_reachAll_65 : decode cX7_reachAll 65 = .ok (.ifCond .eq 31, 3) := by decide +kernel
theorem dX7_reachAll_68 : decode cX7_reachAll 68 = .ok (.iload_n 3, 1) := by decide +kernel
theorem dX7_reachAll_69 : decode cX7_reachAll 69 = .ok (.bipush 20, 2) := by decide +kernel
theorem dX7_reachAll_71 : decode cX7_reachAll 71 = .ok (.if_icmp .ge 25, 3) := by decide +kernel
theorem dX7_reachAll_74 : decode cX7_reachAll 74 = .ok (.aload_n 0, 1) := by decide +kernel
theorem dX7_reachAll_75 : decode cX7_reachAll 75 = .ok (.getfield 39, 3) := by decide +kernel
theorem dX7_reachAll_78 : decode cX7_reachAll 78 = .ok (.iload_n 3, 1) := by decide +kernel
theorem dX7_reachAll_79 : decode cX7_reachAll 79 = .ok (.invokevirtual 82, 3) := by decide +kernel
theorem dX7_reachAll_82 : decode cX7_reachAll 82 = .ok (.ifCond .ne 8, 3) := by decide +kernel
theorem dX7_reachAll_85 : decode cX7_reachAll 85 = .ok (.aload_n 0, 1) := by decide +kernel
theorem dX7_reachAll_86 : decode cX7_reachAll 86 = .ok (.iload_n 3, 1) := by decide +kernel
theorem dX7_reachAll_87 : decode cX7_reachAll 87 = .ok (.invokevirtual 79, 3) := by decide +kernel
theorem dX7_reachAll_90 : decode cX7_reachAll 90 = .ok (.iinc 3 1, 3) := by decide +kernel
theorem dX7_reachAll_93 : decode cX7_reachAll 93 = .ok (.goto (-29), 3) := by decide +kernel
theorem dX7_reachAll_96 : decode cX7_reachAll 96 = .ok (.iconst 0, 1) := by decide +kernel
theorem dX7_reachAll_97 : decode cX7_reachAll 97 = .ok (.istore_n 3, 1) := by decide +kernel
theorem dX7_reachAll_98 : decode cX7_reachAll 98 = .ok (.iload_n 3, 1) := by decide +kernel
theorem dX7_reachAll_99 : decode cX7_reachAll 99 = .ok (.aload_n 0, 1) := by decide +kernel
theorem dX7_reachAll_100 : decode cX7_reachAll 100 = .ok (.getfield 15, 3) := by decide +kernel
theorem dX7_reachAll_103 : decode cX7_reachAll 103 = .ok (.if_icmp .ge 26, 3) := by decide +kernel
theorem dX7_reachAll_106 : decode cX7_reachAll 106 = .ok (.iload_n 3, 1) := by decide +kernel
theorem dX7_reachAll_107 : decode cX7_reachAll 107 = .ok (.bipush 24, 2) := by decide +kernel
theorem dX7_reachAll_109 : decode cX7_reachAll 109 = .ok (.if_icmp .ge 20, 3) := by decide +kernel
theorem dX7_reachAll_112 : decode cX7_reachAll 112 = .ok (.aload_n 0, 1) := by decide +kernel
theorem dX7_reachAll_113 : decode cX7_reachAll 113 = .ok (.aload_n 0, 1) := by decide +kernel
theorem dX7_reachAll_114 : decode cX7_reachAll 114 = .ok (.getfield 9, 3) := by decide +kernel
theorem dX7_reachAll_117 : decode cX7_reachAll 117 = .ok (.iload_n 3, 1) := by decide +kernel
theorem dX7_reachAll_118 : decode cX7_reachAll 118 = .ok (.iaload, 1) := by decide +kernel
theorem dX7_reachAll_119 : decode cX7_reachAll 119 = .ok (.iload_n 2, 1) := by decide +kernel
theorem dX7_reachAll_120 : decode cX7_reachAll 120 = .ok (.invokevirtual 87, 3) := by decide +kernel
theorem dX7_reachAll_123 : decode cX7_reachAll 123 = .ok (.iinc 3 1, 3) := by decide +kernel
theorem dX7_reachAll_126 : decode cX7_reachAll 126 = .ok (.goto (-28), 3) := by decide +kernel
theorem dX7_reachAll_129 : decode cX7_reachAll 129 = .ok (.return_, 1) := by decide +kernel
def g_X7_reachAll : Nat → EA := (t_n 65 (t_n 32 (t_n 14 (t_n 6 (t_n 4 (t_n 1 (t_l 0 (a_aload 1 0)) (t_l 1 (a_inv true 112 1 (some 7)))) (t_n 5 (t_l 4 (a_push 1 (.int 0))) (t_l 5 (a_istore 4 1 3)))) (t_n 8 (t_n 7 (t_l 6 (a_iload 1 3)) (t_l 7 (a_aload 1 0))) (t_n 11 (t_l 8 (a_getf 7 0)) (t_l 11 (a_inv true 117 1 (some 8)))))) (t_n 22 (t_n 18 (t_n 17 (t_l 14 (a_ic 57 (fun x y => decide (y ≤ x)))) (t_l 17 (a_aload 1 0))) (t_n 21 (t_l 18 (a_getf 7 0)) (t_l 21 (a_iload 1 3)))) (t_n 28 (t_n 25 (t_l 22 (a_inv true 125 2 (some 8))) (t_l 25 (a_if 51 (fun x => decide (x = 0))))) (t_n 29 (t_l 28 (a_aload 1 0)) (t_l 29 (a_getf 7 1)))))) (t_n 48 (t_n 40 (t_n 36 (t_n 33 (t_l 32 (a_aload 1 0)) (t_l 33 (a_getf 7 0))) (t_n 37 (t_l 36 (a_iload 1 3)) (t_l 37 (a_inv true 123 2 (some 8))))) (t_n 46 (t_n 43 (t_l 40 (a_inv true 152 2 (some 10))) (t_l 43 (a_if 51 (fun x => decide (x = 0))))) (t_n 47 (t_l 46 (a_aload 1 0)) (t_l 47 (a_iload 1 3))))) (t_n 58 (t_n 54 (t_n 51 (t_l 48 (a_inv true 115 2 (some 7))) (t_l 51 (a_iinc 4 3 1))) (t_n 57 (t_l 54 (a_goto 6)) (t_l 57 (a_aload 1 0)))) (t_n 62 (t_n 59 (t_l 58 (a_iload 1 1)) (t_l 59 (a_inv true 114 2 (some 7)))) (t_n 63 (t_l 62 (a_push 1 (.int 0))) (t_n 64 (t_l 63 (a_istore 4 1 3)) (t_l 64 (a_iload 1 2)))))))) (t_n 98 (t_n 82 (t_n 74 (t_n 69 (t_n 68 (t_l 65 (a_if 96 (fun x => decide (x = 0)))) (t_l 68 (a_iload 1 3))) (t_n 71 (t_l 69 (a_push 2 (.int 20))) (t_l 71 (a_ic 96 (fun x y => decide (y ≤ x)))))) (t_n 78 (t_n 75 (t_l 74 (a_aload 1 0)) (t_l 75 (a_getf 7 2))) (t_n 79 (t_l 78 (a_iload 1 3)) (t_l 79 (a_inv true 144 2 (some 9)))))) (t_n 90 (t_n 86 (t_n 85 (t_l 82 (a_if 90 (fun x => !decide (x = 0)))) (t_l 85 (a_aload 1 0))) (t_n 87 (t_l 86 (a_iload 1 3)) (t_l 87 (a_inv true 114 2 (some 7))))) (t_n 96 (t_n 93 (t_l 90 (a_iinc 4 3 1)) (t_l 93 (a_goto 64))) (t_n 97 (t_l 96 (a_push 1 (.int 0))) (t_l 97 (a_istore 4 1 3)))))) (t_n 113 (t_n 106 (t_n 100 (t_n 99 (t_l 98 (a_iload 1 3)) (t_l 99 (a_aload 1 0))) (t_n 103 (t_l 100 (a_getf 7 4)) (t_l 103 (a_ic 129 (fun x y => decide (y ≤ x)))))) (t_n 109 (t_n 107 (t_l 106 (a_iload 1 3)) (t_l 107 (a_push 2 (.int 24)))) (t_n 112 (t_l 109 (a_ic 129 (fun x y => decide (y ≤ x)))) (t_l 112 (a_aload 1 0))))) (t_n 119 (t_n 117 (t_n 114 (t_l 113 (a_aload 1 0)) (t_l 114 (a_getf 7 3))) (t_n 118 (t_l 117 (a_iload 1 3)) (t_l 118 (a_ild 0)))) (t_n 123 (t_n 120 (t_l 119 (a_iload 1 2)) (t_l 120 (a_inv true 113 3 (some 7)))) (t_n 126 (t_l 123 (a_iinc 4 3 1)) (t_n 129 (t_l 126 (a_goto 98)) (t_l 129 a_vret))))))))
set_option maxRecDepth 100000 in
theorem k_X7_reachAll (sc : Nat × (Nat → Int32)) (d : Nat) : ∀ pc, ev_Ok cX7_reachAll 4 [] RX7 lw_g lw_n (lw_q sc) vwCl false (ev_CO mt lw_g lw_n (lw_q sc) vwCl d) pc (g_X7_reachAll pc) := (ok_t_n (ok_t_n (ok_t_n (ok_t_n (ok_t_n (ok_t_n (ok_t_l (ok_aload_n dX7_reachAll_0 rfl)) (ok_t_l (ok_inv (run_V (y := 112) (n := 0) (ci := 7) dX7_reachAll_1 cz_112 gdG cc_112 ci_112 w_372 cm_112 cs_112 cd_112 cl_112 rfl rfl)))) (ok_t_n (ok_t_l (ok_iconst dX7_reachAll_4 rfl)) (ok_t_l (ok_istore_n dX7_reachAll_5 rfl)))) (ok_t_n (ok_t_n (ok_t_l (ok_iload_n dX7_reachAll_6 rfl)) (ok_t_l (ok_aload_n dX7_reachAll_7 rfl))) (ok_t_n (ok_t_l (ok_getfield dX7_reachAll_8 (ci := 7) (kf := 0) rfl inGX7 (by decide) w_1197)) (ok_t_l (ok_inv (run_V (y := 117) (n := 0) (ci := 8) dX7_reachAll_11 cz_117 gdG cc_117 ci_117 w_377 cm_117 cs_117 cd_117 cl_117 rfl rfl)))))) (ok_t_n (ok_t_n (ok_t_n (ok_t_l (ok_icmp_ge dX7_reachAll_14 rfl)) (ok_t_l (ok_aload_n dX7_reachAll_17 rfl))) (ok_t_n (ok_t_l (ok_getfield dX7_reachAll_18 (ci := 7) (kf := 0) rfl inGX7 (by decide) w_1197)) (ok_t_l (ok_iload_n dX7_reachAll_21 rfl)))) (ok_t_n (ok_t_n (ok_t_l (ok_inv (run_V (y := 125) (n := 1) (ci := 8) dX7_reachAll_22 cz_125 gdG cc_125 ci_125 w_381 cm_125 cs_125 cd_125 cl_125 rfl rfl))) (ok_t_l (ok_if_eq dX7_reachAll_25 rfl))) (ok_t_n (ok_t_l (ok_aload_n dX7_reachAll_28 rfl)) (ok_t_l (ok_getfield dX7_reachAll_29 (ci := 7) (kf := 1) rfl inGX7 (by decide) w_1198)))))) (ok_t_n (ok_t_n (ok_t_n (ok_t_n (ok_t_l (ok_aload_n dX7_reachAll_32 rfl)) (ok_t_l (ok_getfield dX7_reachAll_33 (ci := 7) (kf := 0) rfl inGX7 (by decide) w_1197))) (ok_t_n (ok_t_l (ok_iload_n dX7_reachAll_36 rfl)) (ok_t_l (ok_inv (run_V (y := 123) (n := 1) (ci := 8) dX7_reachAll_37 cz_123 gdG cc_123 ci_123 w_389 cm_123 cs_123 cd_123 cl_123 rfl rfl))))) (ok_t_n (ok_t_n (ok_t_l (ok_inv (run_V (y := 152) (n := 1) (ci := 10) dX7_reachAll_40 cz_152 gdG cc_152 ci_152 w_393 cm_152 cs_152 cd_152 cl_152 rfl rfl))) (ok_t_l (ok_if_eq dX7_reachAll_43 rfl))) (ok_t_n (ok_t_l (ok_aload_n dX7_reachAll_46 rfl)) (ok_t_l (ok_iload_n dX7_reachAll_47 rfl))))) (ok_t_n (ok_t_n (ok_t_n (ok_t_l (ok_inv (run_V (y := 115) (n := 1) (ci := 7) dX7_reachAll_48 cz_115 gdG cc_115 ci_115 w_400 cm_115 cs_115 cd_115 cl_115 rfl rfl))) (ok_t_l (ok_iinc dX7_reachAll_51 rfl))) (ok_t_n (ok_t_l (ok_goto dX7_reachAll_54 rfl)) (ok_t_l (ok_aload_n dX7_reachAll_57 rfl)))) (ok_t_n (ok_t_n (ok_t_l (ok_iload_n dX7_reachAll_58 rfl)) (ok_t_l (ok_inv (run_V (y := 114) (n := 1) (ci := 7) dX7_reachAll_59 cz_114 gdG cc_114 ci_114 w_406 cm_114 cs_114 cd_114 cl_114 rfl rfl)))) (ok_t_n (ok_t_l (ok_iconst dX7_reachAll_62 rfl)) (ok_t_n (ok_t_l (ok_istore_n dX7_reachAll_63 rfl)) (ok_t_l (ok_iload_n dX7_reachAll_64 rfl)))))))) (ok_t_n (ok_t_n (ok_t_n (ok_t_n (ok_t_n (ok_t_l (ok_if_eq dX7_reachAll_65 rfl)) (ok_t_l (ok_iload_n dX7_reachAll_68 rfl))) (ok_t_n (ok_t_l (ok_bipush dX7_reachAll_69 rfl)) (ok_t_l (ok_icmp_ge dX7_reachAll_71 rfl)))) (ok_t_n (ok_t_n (ok_t_l (ok_aload_n dX7_reachAll_74 rfl)) (ok_t_l (ok_getfield dX7_reachAll_75 (ci := 7) (kf := 2) rfl inGX7 (by decide) w_1199))) (ok_t_n (ok_t_l (ok_iload_n dX7_reachAll_78 rfl)) (ok_t_l (ok_inv (run_V (y := 144) (n := 1) (ci := 9) dX7_reachAll_79 cz_144 gdG cc_144 ci_144 w_418 cm_144 cs_144 cd_144 cl_144 rfl rfl)))))) (ok_t_n (ok_t_n (ok_t_n (ok_t_l (ok_if_ne dX7_reachAll_82 rfl)) (ok_t_l (ok_aload_n dX7_reachAll_85 rfl))) (ok_t_n (ok_t_l (ok_iload_n dX7_reachAll_86 rfl)) (ok_t_l (ok_inv (run_V (y := 114) (n := 1) (ci := 7) dX7_reachAll_87 cz_114 gdG cc_114 ci_114 w_406 cm_114 cs_114 cd_114 cl_114 rfl rfl))))) (ok_t_n (ok_t_n (ok_t_l (ok_iinc dX7_reachAll_90 rfl)) (ok_t_l (ok_goto dX7_reachAll_93 rfl))) (ok_t_n (ok_t_l (ok_iconst dX7_reachAll_96 rfl)) (ok_t_l (ok_istore_n dX7_reachAll_97 rfl)))))) (ok_t_n (ok_t_n (ok_t_n (ok_t_n (ok_t_l (ok_iload_n dX7_reachAll_98 rfl)) (ok_t_l (ok_aload_n dX7_reachAll_99 rfl))) (ok_t_n (ok_t_l (ok_getfield dX7_reachAll_100 (ci := 7) (kf := 4) rfl inGX7 (by decide) w_1201)) (ok_t_l (ok_icmp_ge dX7_reachAll_103 rfl)))) (ok_t_n (ok_t_n (ok_t_l (ok_iload_n dX7_reachAll_106 rfl)) (ok_t_l (ok_bipush dX7_reachAll_107 rfl))) (ok_t_n (ok_t_l (ok_icmp_ge dX7_reachAll_109 rfl)) (ok_t_l (ok_aload_n dX7_reachAll_112 rfl))))) (ok_t_n (ok_t_n (ok_t_n (ok_t_l (ok_aload_n dX7_reachAll_113 rfl)) (ok_t_l (ok_getfield dX7_reachAll_114 (ci := 7) (kf := 3) rfl inGX7 (by decide) w_1200))) (ok_t_n (ok_t_l (ok_iload_n dX7_reachAll_117 rfl)) (ok_t_l (ok_iaload dX7_reachAll_118)))) (ok_t_n (ok_t_n (ok_t_l (ok_iload_n dX7_reachAll_119 rfl)) (ok_t_l (ok_inv (run_V (y := 113) (n := 2) (ci := 7) dX7_reachAll_120 cz_113 gdG cc_113 ci_113 w_423 cm_113 cs_113 cd_113 cl_113 rfl rfl)))) (ok_t_n (ok_t_l (ok_iinc dX7_reachAll_123 rfl)) (ok_t_n (ok_t_l (ok_goto dX7_reachAll_126 rfl)) (ok_t_l (ok_vreturn dX7_reachAll_129)))))))))
theorem dX7_forget_0 : decode cX7_forget 0 = .ok (.aload_n 0, 1) := by decide +kernel
theorem dX7_forget_1 : decode cX7_forget 1 = .ok (.iconst 0, 1) := by decide +kernel
theorem dX7_forget_2 : decode cX7_forget 2 = .ok (.putfield 15, 3) := by decide +kernel
theorem dX7_forget_5 : decode cX7_forget 5 = .ok (.aload_n 0, 1) := by decide +kernel
theorem dX7_forget_6 : decode cX7_forget 6 = .ok (.iconst 0, 1) := by decide +kernel
theorem dX7_forget_7 : decode cX7_forget 7 = .ok (.putfield 19, 3) := by decide +kernel
theorem dX7_forget_10 : decode cX7_forget 10 = .ok (.aload_n 0, 1) := by decide +kernel
theorem dX7_forget_11 : decode cX7_forget 11 = .ok (.iconst 0, 1) := by decide +kernel
theorem dX7_forget_12 : decode cX7_forget 12 = .ok (.putfield 22, 3) := by decide +kernel
theorem dX7_forget_15 : decode cX7_forget 15 = .ok (.aload_n 0, 1) := by decide +kernel
theorem dX7_forget_16 : decode cX7_forget 16 = .ok (.iconst 0, 1) := by decide +kernel
theorem dX7_forget_17 : decode cX7_forget 17 = .ok (.putfield 25, 3) := by decide +kernel
theorem dX7_forget_20 : decode cX7_forget 20 = .ok (.iconst 0, 1) := by decide +kernel
theorem dX7_forget_21 : decode cX7_forget 21 = .ok (.istore_n 1, 1) := by decide +kernel
theorem dX7_forget_22 : decode cX7_forget 22 = .ok (.iload_n 1, 1) := by decide +kernel
theorem dX7_forget_23 : decode cX7_forget 23 = .ok (.bipush 20, 2) := by decide +kernel
theorem dX7_forget_25 : decode cX7_forget 25 = .ok (.if_icmp .ge 16, 3) := by decide +kernel
theorem dX7_forget_28 : decode cX7_forget 28 = .ok (.aload_n 0, 1) := by decide +kernel
theorem dX7_forget_29 : decode cX7_forget 29 = .ok (.getfield 28, 3) := by decide +kernel
theorem dX7_forget_32 : decode cX7_forget 32 = .ok (.iload_n 1, 1) := by decide +kernel
theorem dX7_forget_33 : decode cX7_forget 33 = .ok (.iconst 0, 1) := by decide +kernel
theorem dX7_forget_34 : decode cX7_forget 34 = .ok (.iastore, 1) := by decide +kernel
theorem dX7_forget_35 : decode cX7_forget 35 = .ok (.iinc 1 1, 3) := by decide +kernel
theorem dX7_forget_38 : decode cX7_forget 38 = .ok (.goto (-16), 3) := by decide +kernel
theorem dX7_forget_41 : decode cX7_forget 41 = .ok (.return_, 1) := by decide +kernel
def g_X7_forget : Nat → EA := (t_n 20 (t_n 10 (t_n 5 (t_n 1 (t_l 0 (a_aload 1 0)) (t_n 2 (t_l 1 (a_push 1 (.int 0))) (t_l 2 (a_putf 0 7 4)))) (t_n 6 (t_l 5 (a_aload 1 0)) (t_n 7 (t_l 6 (a_push 1 (.int 0))) (t_l 7 (a_putf 0 7 5))))) (t_n 15 (t_n 11 (t_l 10 (a_aload 1 0)) (t_n 12 (t_l 11 (a_push 1 (.int 0))) (t_l 12 (a_putf 0 7 6)))) (t_n 16 (t_l 15 (a_aload 1 0)) (t_n 17 (t_l 16 (a_push 1 (.int 0))) (t_l 17 (a_putf 0 7 7)))))) (t_n 29 (t_n 23 (t_n 21 (t_l 20 (a_push 1 (.int 0))) (t_n 22 (t_l 21 (a_istore 2 1 1)) (t_l 22 (a_iload 1 1)))) (t_n 25 (t_l 23 (a_push 2 (.int 20))) (t_n 28 (t_l 25 (a_ic 41 (fun x y => decide (y ≤ x)))) (t_l 28 (a_aload 1 0))))) (t_n 34 (t_n 32 (t_l 29 (a_getf 7 8)) (t_n 33 (t_l 32 (a_iload 1 1)) (t_l 33 (a_push 1 (.int 0))))) (t_n 38 (t_n 35 (t_l 34 (a_ist 0)) (t_l 35 (a_iinc 2 1 1))) (t_n 41 (t_l 38 (a_goto 22)) (t_l 41 a_vret))))))
set_option maxRecDepth 100000 in
theorem k_X7_forget (sc : Nat × (Nat → Int32)) (d : Nat) : ∀ pc, ev_Ok cX7_forget 2 [] RX7 lw_g lw_n (lw_q sc) vwCl false (ev_CO mt lw_g lw_n (lw_q sc) vwCl d) pc (g_X7_forget pc) := (ok_t_n (ok_t_n (ok_t_n (ok_t_n (ok_t_l (ok_aload_n dX7_forget_0 rfl)) (ok_t_n (ok_t_l (ok_iconst dX7_forget_1 rfl)) (ok_t_l (ok_putfield dX7_forget_2 (ci := 7) (kf := 4) rfl inGX7 (by decide) tyX7_ok nmX7 rfl w_1201 rfl)))) (ok_t_n (ok_t_l (ok_aload_n dX7_forget_5 rfl)) (ok_t_n (ok_t_l (ok_iconst dX7_forget_6 rfl)) (ok_t_l (ok_putfield dX7_forget_7 (ci := 7) (kf := 5) rfl inGX7 (by decide) tyX7_ok nmX7 rfl w_1202 rfl))))) (ok_t_n (ok_t_n (ok_t_l (ok_aload_n dX7_forget_10 rfl)) (ok_t_n (ok_t_l (ok_iconst dX7_forget_11 rfl)) (ok_t_l (ok_putfield dX7_forget_12 (ci := 7) (kf := 6) rfl inGX7 (by decide) tyX7_ok nmX7 rfl w_1203 rfl)))) (ok_t_n (ok_t_l (ok_aload_n dX7_forget_15 rfl)) (ok_t_n (ok_t_l (ok_iconst dX7_forget_16 rfl)) (ok_t_l (ok_putfield dX7_forget_17 (ci := 7) (kf := 7) rfl inGX7 (by decide) tyX7_ok nmX7 rfl w_1204 rfl)))))) (ok_t_n (ok_t_n (ok_t_n (ok_t_l (ok_iconst dX7_forget_20 rfl)) (ok_t_n (ok_t_l (ok_istore_n dX7_forget_21 rfl)) (ok_t_l (ok_iload_n dX7_forget_22 rfl)))) (ok_t_n (ok_t_l (ok_bipush dX7_forget_23 rfl)) (ok_t_n (ok_t_l (ok_icmp_ge dX7_forget_25 rfl)) (ok_t_l (ok_aload_n dX7_forget_28 rfl))))) (ok_t_n (ok_t_n (ok_t_l (ok_getfield dX7_forget_29 (ci := 7) (kf := 8) rfl inGX7 (by decide) w_1205)) (ok_t_n (ok_t_l (ok_iload_n dX7_forget_32 rfl)) (ok_t_l (ok_iconst dX7_forget_33 rfl)))) (ok_t_n (ok_t_n (ok_t_l (ok_iastore dX7_forget_34)) (ok_t_l (ok_iinc dX7_forget_35 rfl))) (ok_t_n (ok_t_l (ok_goto dX7_forget_38 rfl)) (ok_t_l (ok_vreturn dX7_forget_41)))))))
theorem dX7_follow_0 : decode cX7_follow 0 = .ok (.iconst 0, 1) := by decide +kernel
theorem dX7_follow_1 : decode cX7_follow 1 = .ok (.istore_n 3, 1) := by decide +kernel
theorem dX7_follow_2 : decode cX7_follow 2 = .ok (.iload_n 3, 1) := by decide +kernel
theorem dX7_follow_3 : decode cX7_follow 3 = .ok (.aload_n 0, 1) := by decide +kernel
theorem dX7_follow_4 : decode cX7_follow 4 = .ok (.getfield 31, 3) := by decide +kernel
theorem dX7_follow_7 : decode cX7_follow 7 = .ok (.iload_n 1, 1) := by decide +kernel
theorem dX7_follow_8 : decode cX7_follow 8 = .ok (.invokevirtual 91, 3) := by decide +kernel
theorem dX7_follow_11 : decode cX7_follow 11 = .ok (.if_icmp .ge 90, 3) := by decide +kernel
theorem dX7_follow_14 : decode cX7_follow 14 = .ok (.aload_n 0, 1) := by decide +kernel
theorem dX7_follow_15 : decode cX7_follow 15 = .ok (.getfield 31, 3) := by decide +kernel
theorem dX7_follow_18 : decode cX7_follow 18 = .ok (.iload_n 1, 1) := by decide +kernel
theorem dX7_follow_19 : decode cX7_follow 19 = .ok (.iload_n 3, 1) := by decide +kernel
theorem dX7_follow_20 : decode cX7_follow 20 = .ok (.invokevirtual 94, 3) := by decide +kernel
theorem dX7_follow_23 : decode cX7_follow 23 = .ok (.istore 4, 2) := by decide +kernel
theorem dX7_follow_25 : decode cX7_follow 25 = .ok (.aload_n 0, 1) := by decide +kernel
theorem dX7_follow_26 : decode cX7_follow 26 = .ok (.getfield 31, 3) := by decide +kernel
theorem dX7_follow_29 : decode cX7_follow 29 = .ok (.iload_n 1, 1) := by decide +kernel
theorem dX7_follow_30 : decode cX7_follow 30 = .ok (.iload_n 3, 1) := by decide +kernel
theorem dX7_follow_31 : decode cX7_follow 31 = .ok (.invokevirtual 98, 3) := by decide +kernel
theorem dX7_follow_34 : decode cX7_follow 34 = .ok (.ifCond .eq 61, 3) := by decide +kernel
theorem dX7_follow_37 : decode cX7_follow 37 = .ok (.iload 4, 2) := by decide +kernel
theorem dX7_follow_39 : decode cX7_follow 39 = .ok (.invokestatic 50, 3) := by decide +kernel
theorem dX7_follow_42 : decode cX7_follow 42 = .ok (.ifCond .ne 6, 3) := by decide +kernel
theorem dX7_follow_45 : decode cX7_follow 45 = .ok (.goto 50, 3) := by decide +kernel
theorem dX7_follow_48 : decode cX7_follow 48 = .ok (.aload_n 0, 1) := by decide +kernel
theorem dX7_follow_49 : decode cX7_follow 49 = .ok (.getfield 28, 3) := by decide +kernel
theorem dX7_follow_52 : decode cX7_follow 52 = .ok (.iload 4, 2) := by decide +kernel
theorem dX7_follow_54 : decode cX7_follow 54 = .ok (.dup2, 1) := by decide +kernel
theorem dX7_follow_55 : decode cX7_follow 55 = .ok (.iaload, 1) := by decide +kernel
theorem dX7_follow_56 : decode cX7_follow 56 = .ok (.iconst 1, 1) := by decide +kernel
theorem dX7_follow_57 : decode cX7_follow 57 = .ok (.iadd, 1) := by decide +kernel
theorem dX7_follow_58 : decode cX7_follow 58 = .ok (.iastore, 1) := by decide +kernel
theorem dX7_follow_59 : decode cX7_follow 59 = .ok (.aload_n 0, 1) := by decide +kernel
theorem dX7_follow_60 : decode cX7_follow 60 = .ok (.iload 4, 2) := by decide +kernel
theorem dX7_follow_62 : decode cX7_follow 62 = .ok (.invokevirtual 79, 3) := by decide +kernel
theorem dX7_follow_65 : decode cX7_follow 65 = .ok (.iload_n 2, 1) := by decide +kernel
theorem dX7_follow_66 : decode cX7_follow 66 = .ok (.ifCond .eq 29, 3) := by decide +kernel
theorem dX7_follow_69 : decode cX7_follow 69 = .ok (.aload_n 0, 1) := by decide +kernel
theorem dX7_follow_70 : decode cX7_follow 70 = .ok (.getfield 39, 3) := by decide +kernel
theorem dX7_follow_73 : decode cX7_follow 73 = .ok (.iload 4, 2) := by decide +kernel
theorem dX7_follow_75 : decode cX7_follow 75 = .ok (.invokevirtual 101, 3) := by decide +kernel
theorem dX7_follow_78 : decode cX7_follow 78 = .ok (.iconst (-1), 1) := by decide +kernel
theorem dX7_follow_79 : decode cX7_follow 79 = .ok (.if_icmp .ne 16, 3) := by decide +kernel
theorem dX7_follow_82 : decode cX7_follow 82 = .ok (.aload_n 0, 1) := by decide +kernel
theorem dX7_follow_83 : decode cX7_follow 83 = .ok (.dup, 1) := by decide +kernel
theorem dX7_follow_84 : decode cX7_follow 84 = .ok (.getfield 25, 3) := by decide +kernel
theorem dX7_follow_87 : decode cX7_follow 87 = .ok (.iconst 1, 1) := by decide +kernel
theorem dX7_follow_88 : decode cX7_follow 88 = .ok (.iload 4, 2) := by decide +kernel
theorem dX7_follow_90 : decode cX7_follow 90 = .ok (.ishl, 1) := by decide +kernel
theorem dX7_follow_91 : decode cX7_follow 91 = .ok (.ior, 1) := by decide +kernel
theorem dX7_follow_92 : decode cX7_follow 92 = .ok (.putfield 25, 3) := by decide +kernel
theorem dX7_follow_95 : decode cX7_follow 95 = .ok (.iinc 3 1, 3) := by decide +kernel
theorem dX7_follow_98 : decode cX7_follow 98 = .ok (.goto (-96), 3) := by decide +kernel
theorem dX7_follow_101 : decode cX7_follow 101 = .ok (.return_, 1) := by decide +kernel
def g_X7_follow : Nat → EA := (t_n 54 (t_n 23 (t_n 8 (t_n 3 (t_n 1 (t_l 0 (a_push 1 (.int 0))) (t_n 2 (t_l 1 (a_istore 5 1 3)) (t_l 2 (a_iload 1 3)))) (t_n 4 (t_l 3 (a_aload 1 0)) (t_n 7 (t_l 4 (a_getf 7 0)) (t_l 7 (a_iload 1 1))))) (t_n 15 (t_n 11 (t_l 8 (a_inv true 126 2 (some 8))) (t_n 14 (t_l 11 (a_ic 101 (fun x y => decide (y ≤ x)))) (t_l 14 (a_aload 1 0)))) (t_n 19 (t_n 18 (t_l 15 (a_getf 7 0)) (t_l 18 (a_iload 1 1))) (t_n 20 (t_l 19 (a_iload 1 3)) (t_l 20 (a_inv true 132 3 (some 8))))))) (t_n 37 (t_n 29 (t_n 25 (t_l 23 (a_istore 5 2 4)) (t_n 26 (t_l 25 (a_aload 1 0)) (t_l 26 (a_getf 7 0)))) (t_n 31 (t_n 30 (t_l 29 (a_iload 1 1)) (t_l 30 (a_iload 1 3))) (t_n 34 (t_l 31 (a_inv true 130 3 (some 8))) (t_l 34 (a_if 95 (fun x => decide (x = 0))))))) (t_n 45 (t_n 39 (t_l 37 (a_iload 2 4)) (t_n 42 (t_l 39 (a_inv false 193 1 none)) (t_l 42 (a_if 48 (fun x => !decide (x = 0)))))) (t_n 49 (t_n 48 (t_l 45 (a_goto 95)) (t_l 48 (a_aload 1 0))) (t_n 52 (t_l 49 (a_getf 7 8)) (t_l 52 (a_iload 2 4))))))) (t_n 75 (t_n 60 (t_n 57 (t_n 55 (t_l 54 a_dup2) (t_n 56 (t_l 55 (a_ild 0)) (t_l 56 (a_push 1 (.int 1))))) (t_n 58 (t_l 57 (a_ii 1 (fun x y => x + y))) (t_n 59 (t_l 58 (a_ist 0)) (t_l 59 (a_aload 1 0))))) (t_n 66 (t_n 62 (t_l 60 (a_iload 2 4)) (t_n 65 (t_l 62 (a_inv true 114 2 (some 7))) (t_l 65 (a_iload 1 2)))) (t_n 70 (t_n 69 (t_l 66 (a_if 95 (fun x => decide (x = 0)))) (t_l 69 (a_aload 1 0))) (t_n 73 (t_l 70 (a_getf 7 2)) (t_l 73 (a_iload 2 4)))))) (t_n 88 (t_n 82 (t_n 78 (t_l 75 (a_inv true 140 2 (some 9))) (t_n 79 (t_l 78 (a_push 1 (.int (-1)))) (t_l 79 (a_ic 95 (fun x y => !decide (x = y)))))) (t_n 84 (t_n 83 (t_l 82 (a_aload 1 0)) (t_l 83 a_dup)) (t_n 87 (t_l 84 (a_getf 7 7)) (t_l 87 (a_push 1 (.int 1)))))) (t_n 92 (t_n 90 (t_l 88 (a_iload 2 4)) (t_n 91 (t_l 90 (a_ii 1 (fun x y => x <<< (y &&& 31)))) (t_l 91 (a_ii 1 (fun x y => x ||| y))))) (t_n 98 (t_n 95 (t_l 92 (a_putf 0 7 7)) (t_l 95 (a_iinc 5 3 1))) (t_n 101 (t_l 98 (a_goto 2)) (t_l 101 a_vret)))))))
set_option maxRecDepth 100000 in
theorem k_X7_follow (sc : Nat × (Nat → Int32)) (d : Nat) : ∀ pc, ev_Ok cX7_follow 5 [] RX7 lw_g lw_n (lw_q sc) vwCl false (ev_CO mt lw_g lw_n (lw_q sc) vwCl d) pc (g_X7_follow pc) := (ok_t_n (ok_t_n (ok_t_n (ok_t_n (ok_t_n (ok_t_l (ok_iconst dX7_follow_0 rfl)) (ok_t_n (ok_t_l (ok_istore_n dX7_follow_1 rfl)) (ok_t_l (ok_iload_n dX7_follow_2 rfl)))) (ok_t_n (ok_t_l (ok_aload_n dX7_follow_3 rfl)) (ok_t_n (ok_t_l (ok_getfield dX7_follow_4 (ci := 7) (kf := 0) rfl inGX7 (by decide) w_1197)) (ok_t_l (ok_iload_n dX7_follow_7 rfl))))) (ok_t_n (ok_t_n (ok_t_l (ok_inv (run_V (y := 126) (n := 1) (ci := 8) dX7_follow_8 cz_126 gdG cc_126 ci_126 w_427 cm_126 cs_126 cd_126 cl_126 rfl rfl))) (ok_t_n (ok_t_l (ok_icmp_ge dX7_follow_11 rfl)) (ok_t_l (ok_aload_n dX7_follow_14 rfl)))) (ok_t_n (ok_t_n (ok_t_l (ok_getfield dX7_follow_15 (ci := 7) (kf := 0) rfl inGX7 (by decide) w_1197)) (ok_t_l (ok_iload_n dX7_follow_18 rfl))) (ok_t_n (ok_t_l (ok_iload_n dX7_follow_19 rfl)) (ok_t_l (ok_inv (run_V (y := 132) (n := 2) (ci := 8) dX7_follow_20 cz_132 gdG cc_132 ci_132 w_431 cm_132 cs_132 cd_132 cl_132 rfl rfl))))))) (ok_t_n (ok_t_n (ok_t_n (ok_t_l (ok_istore dX7_follow_23)) (ok_t_n (ok_t_l (ok_aload_n dX7_follow_25 rfl)) (ok_t_l (ok_getfield dX7_follow_26 (ci := 7) (kf := 0) rfl inGX7 (by decide) w_1197)))) (ok_t_n (ok_t_n (ok_t_l (ok_iload_n dX7_follow_29 rfl)) (ok_t_l (ok_iload_n dX7_follow_30 rfl))) (ok_t_n (ok_t_l (ok_inv (run_V (y := 130) (n := 2) (ci := 8) dX7_follow_31 cz_130 gdG cc_130 ci_130 w_440 cm_130 cs_130 cd_130 cl_130 rfl rfl))) (ok_t_l (ok_if_eq dX7_follow_34 rfl))))) (ok_t_n (ok_t_n (ok_t_l (ok_iload dX7_follow_37)) (ok_t_n (ok_t_l (ok_inv (run_SN (y := 193) (n := 1) dX7_follow_39 cz_193 gdG cc_193 ci_193 nst_9 cm_193 cd_193 cl_193))) (ok_t_l (ok_if_ne dX7_follow_42 rfl)))) (ok_t_n (ok_t_n (ok_t_l (ok_goto dX7_follow_45 rfl)) (ok_t_l (ok_aload_n dX7_follow_48 rfl))) (ok_t_n (ok_t_l (ok_getfield dX7_follow_49 (ci := 7) (kf := 8) rfl inGX7 (by decide) w_1205)) (ok_t_l (ok_iload dX7_follow_52))))))) (ok_t_n (ok_t_n (ok_t_n (ok_t_n (ok_t_l (ok_dup2 dX7_follow_54)) (ok_t_n (ok_t_l (ok_iaload dX7_follow_55)) (ok_t_l (ok_iconst dX7_follow_56 rfl)))) (ok_t_n (ok_t_l (ok_iadd dX7_follow_57)) (ok_t_n (ok_t_l (ok_iastore dX7_follow_58)) (ok_t_l (ok_aload_n dX7_follow_59 rfl))))) (ok_t_n (ok_t_n (ok_t_l (ok_iload dX7_follow_60)) (ok_t_n (ok_t_l (ok_inv (run_V (y := 114) (n := 1) (ci := 7) dX7_follow_62 cz_114 gdG cc_114 ci_114 w_406 cm_114 cs_114 cd_114 cl_114 rfl rfl))) (ok_t_l (ok_iload_n dX7_follow_65 rfl)))) (ok_t_n (ok_t_n (ok_t_l (ok_if_eq dX7_follow_66 rfl)) (ok_t_l (ok_aload_n dX7_follow_69 rfl))) (ok_t_n (ok_t_l (ok_getfield dX7_follow_70 (ci := 7) (kf := 2) rfl inGX7 (by decide) w_1199)) (ok_t_l (ok_iload dX7_follow_73)))))) (ok_t_n (ok_t_n (ok_t_n (ok_t_l (ok_inv (run_V (y := 140) (n := 1) (ci := 9) dX7_follow_75 cz_140 gdG cc_140 ci_140 w_410 cm_140 cs_140 cd_140 cl_140 rfl rfl))) (ok_t_n (ok_t_l (ok_iconst dX7_follow_78 rfl)) (ok_t_l (ok_icmp_ne dX7_follow_79 rfl)))) (ok_t_n (ok_t_n (ok_t_l (ok_aload_n dX7_follow_82 rfl)) (ok_t_l (ok_dup dX7_follow_83))) (ok_t_n (ok_t_l (ok_getfield dX7_follow_84 (ci := 7) (kf := 7) rfl inGX7 (by decide) w_1204)) (ok_t_l (ok_iconst dX7_follow_87 rfl))))) (ok_t_n (ok_t_n (ok_t_l (ok_iload dX7_follow_88)) (ok_t_n (ok_t_l (ok_ishl dX7_follow_90)) (ok_t_l (ok_ior dX7_follow_91)))) (ok_t_n (ok_t_n (ok_t_l (ok_putfield dX7_follow_92 (ci := 7) (kf := 7) rfl inGX7 (by decide) tyX7_ok nmX7 rfl w_1204 rfl)) (ok_t_l (ok_iinc dX7_follow_95 rfl))) (ok_t_n (ok_t_l (ok_goto dX7_follow_98 rfl)) (ok_t_l (ok_vreturn dX7_follow_101))))))))
theorem dX7_reachName_0 : decode cX7_reachName 0 = .ok (.aload_n 0, 1) := by decide +kernel
theorem dX7_reachName_1 : decode cX7_reachName 1 = .ok (.getfield 39, 3) := by decide +kernel
theorem dX7_reachName_4 : decode cX7_reachName 4 = .ok (.iload_n 1, 1) := by decide +kernel
theorem dX7_reachName_5 : decode cX7_reachName 5 = .ok (.invokevirtual 101, 3) := by decide +kernel
theorem dX7_reachName_8 : decode cX7_reachName 8 = .ok (.istore_n 2, 1) := by decide +kernel
theorem dX7_reachName_9 : decode cX7_reachName 9 = .ok (.iload_n 2, 1) := by decide +kernel
theorem dX7_reachName_10 : decode cX7_reachName 10 = .ok (.iconst 1, 1) := by decide +kernel
theorem dX7_reachName_11 : decode cX7_reachName 11 = .ok (.if_icmp .ne 18, 3) := by decide +kernel
theorem dX7_reachName_14 : decode cX7_reachName 14 = .ok (.aload_n 0, 1) := by decide +kernel
theorem dX7_reachName_15 : decode cX7_reachName 15 = .ok (.dup, 1) := by decide +kernel
theorem dX7_reachName_16 : decode cX7_reachName 16 = .ok (.getfield 22, 3) := by decide +kernel
theorem dX7_reachName_19 : decode cX7_reachName 19 = .ok (.iconst 1, 1) := by decide +kernel
theorem dX7_reachName_20 : decode cX7_reachName 20 = .ok (.iload_n 1, 1) := by decide +kernel
theorem dX7_reachName_21 : decode cX7_reachName 21 = .ok (.ishl, 1) := by decide +kernel
theorem dX7_reachName_22 : decode cX7_reachName 22 = .ok (.ior, 1) := by decide +kernel
theorem dX7_reachName_23 : decode cX7_reachName 23 = .ok (.putfield 22, 3) := by decide +kernel
theorem dX7_reachName_26 : decode cX7_reachName 26 = .ok (.goto 20, 3) := by decide +kernel
theorem dX7_reachName_29 : decode cX7_reachName 29 = .ok (.iload_n 2, 1) := by decide +kernel
theorem dX7_reachName_30 : decode cX7_reachName 30 = .ok (.iconst (-1), 1) := by decide +kernel
theorem dX7_reachName_31 : decode cX7_reachName 31 = .ok (.if_icmp .eq 15, 3) := by decide +kernel
theorem dX7_reachName_34 : decode cX7_reachName 34 = .ok (.aload_n 0, 1) := by decide +kernel
theorem dX7_reachName_35 : decode cX7_reachName 35 = .ok (.aload_n 0, 1) := by decide +kernel
theorem dX7_reachName_36 : decode cX7_reachName 36 = .ok (.getfield 39, 3) := by decide +kernel
theorem dX7_reachName_39 : decode cX7_reachName 39 = .ok (.iload_n 1, 1) := by decide +kernel
theorem dX7_reachName_40 : decode cX7_reachName 40 = .ok (.invokevirtual 104, 3) := by decide +kernel
theorem dX7_reachName_43 : decode cX7_reachName 43 = .ok (.invokevirtual 75, 3) := by decide +kernel
theorem dX7_reachName_46 : decode cX7_reachName 46 = .ok (.return_, 1) := by decide +kernel
def g_X7_reachName : Nat → EA := (t_n 21 (t_n 10 (t_n 5 (t_n 1 (t_l 0 (a_aload 1 0)) (t_n 4 (t_l 1 (a_getf 7 2)) (t_l 4 (a_iload 1 1)))) (t_n 8 (t_l 5 (a_inv true 140 2 (some 9))) (t_n 9 (t_l 8 (a_istore 3 1 2)) (t_l 9 (a_iload 1 2))))) (t_n 15 (t_n 11 (t_l 10 (a_push 1 (.int 1))) (t_n 14 (t_l 11 (a_ic 29 (fun x y => !decide (x = y)))) (t_l 14 (a_aload 1 0)))) (t_n 19 (t_n 16 (t_l 15 a_dup) (t_l 16 (a_getf 7 6))) (t_n 20 (t_l 19 (a_push 1 (.int 1))) (t_l 20 (a_iload 1 1)))))) (t_n 34 (t_n 26 (t_n 22 (t_l 21 (a_ii 1 (fun x y => x <<< (y &&& 31)))) (t_n 23 (t_l 22 (a_ii 1 (fun x y => x ||| y))) (t_l 23 (a_putf 0 7 6)))) (t_n 30 (t_n 29 (t_l 26 (a_goto 46)) (t_l 29 (a_iload 1 2))) (t_n 31 (t_l 30 (a_push 1 (.int (-1)))) (t_l 31 (a_ic 46 (fun x y => decide (x = y))))))) (t_n 39 (t_n 35 (t_l 34 (a_aload 1 0)) (t_n 36 (t_l 35 (a_aload 1 0)) (t_l 36 (a_getf 7 2)))) (t_n 43 (t_n 40 (t_l 39 (a_iload 1 1)) (t_l 40 (a_inv true 142 2 (some 9)))) (t_n 46 (t_l 43 (a_inv true 115 2 (some 7))) (t_l 46 a_vret))))))
set_option maxRecDepth 100000 in
theorem k_X7_reachName (sc : Nat × (Nat → Int32)) (d : Nat) : ∀ pc, ev_Ok cX7_reachName 3 [] RX7 lw_g lw_n (lw_q sc) vwCl false (ev_CO mt lw_g lw_n (lw_q sc) vwCl d) pc (g_X7_reachName pc) := (ok_t_n (ok_t_n (ok_t_n (ok_t_n (ok_t_l (ok_aload_n dX7_reachName_0 rfl)) (ok_t_n (ok_t_l (ok_getfield dX7_reachName_1 (ci := 7) (kf := 2) rfl inGX7 (by decide) w_1199)) (ok_t_l (ok_iload_n dX7_reachName_4 rfl)))) (ok_t_n (ok_t_l (ok_inv (run_V (y := 140) (n := 1) (ci := 9) dX7_reachName_5 cz_140 gdG cc_140 ci_140 w_410 cm_140 cs_140 cd_140 cl_140 rfl rfl))) (ok_t_n (ok_t_l (ok_istore_n dX7_reachName_8 rfl)) (ok_t_l (ok_iload_n dX7_reachName_9 rfl))))) (ok_t_n (ok_t_n (ok_t_l (ok_iconst dX7_reachName_10 rfl)) (ok_t_n (ok_t_l (ok_icmp_ne dX7_reachName_11 rfl)) (ok_t_l (ok_aload_n dX7_reachName_14 rfl)))) (ok_t_n (ok_t_n (ok_t_l (ok_dup dX7_reachName_15)) (ok_t_l (ok_getfield dX7_reachName_16 (ci := 7) (kf := 6) rfl inGX7 (by decide) w_1203))) (ok_t_n (ok_t_l (ok_iconst dX7_reachName_19 rfl)) (ok_t_l (ok_iload_n dX7_reachName_20 rfl)))))) (ok_t_n (ok_t_n (ok_t_n (ok_t_l (ok_ishl dX7_reachName_21)) (ok_t_n (ok_t_l (ok_ior dX7_reachName_22)) (ok_t_l (ok_putfield dX7_reachName_23 (ci := 7) (kf := 6) rfl inGX7 (by decide) tyX7_ok nmX7 rfl w_1203 rfl)))) (ok_t_n (ok_t_n (ok_t_l (ok_goto dX7_reachName_26 rfl)) (ok_t_l (ok_iload_n dX7_reachName_29 rfl))) (ok_t_n (ok_t_l (ok_iconst dX7_reachName_30 rfl)) (ok_t_l (ok_icmp_eq dX7_reachName_31 rfl))))) (ok_t_n (ok_t_n (ok_t_l (ok_aload_n dX7_reachName_34 rfl)) (ok_t_n (ok_t_l (ok_aload_n dX7_reachName_35 rfl)) (ok_t_l (ok_getfield dX7_reachName_36 (ci := 7) (kf := 2) rfl inGX7 (by decide) w_1199)))) (ok_t_n (ok_t_n (ok_t_l (ok_iload_n dX7_reachName_39 rfl)) (ok_t_l (ok_inv (run_V (y := 142) (n := 1) (ci := 9) dX7_reachName_40 cz_142 gdG cc_142 ci_142 w_414 cm_142 cs_142 cd_142 cl_142 rfl rfl)))) (ok_t_n (ok_t_l (ok_inv (run_V (y := 115) (n := 1) (ci := 7) dX7_reachName_43 cz_115 gdG cc_115 ci_115 w_400 cm_115 cs_115 cd_115 cl_115 rfl rfl))) (ok_t_l (ok_vreturn dX7_reachName_46)))))))
theorem dX7_reachSection_0 : decode cX7_reachSection 0 = .ok (.iload_n 1, 1) := by decide +kernel
theorem dX7_reachSection_1 : decode cX7_reachSection 1 = .ok (.bipush 24, 2) := by decide +kernel
theorem dX7_reachSection_3 : decode cX7_reachSection 3 = .ok (.invokestatic 43, 3) := by decide +kernel
theorem dX7_reachSection_6 : decode cX7_reachSection 6 = .ok (.ifCond .eq 23, 3) := by decide +kernel
theorem dX7_reachSection_9 : decode cX7_reachSection 9 = .ok (.aload_n 0, 1) := by decide +kernel
theorem dX7_reachSection_10 : decode cX7_reachSection 10 = .ok (.getfield 19, 3) := by decide +kernel
theorem dX7_reachSection_13 : decode cX7_reachSection 13 = .ok (.iload_n 1, 1) := by decide +kernel
theorem dX7_reachSection_14 : decode cX7_reachSection 14 = .ok (.invokestatic 47, 3) := by decide +kernel
theorem dX7_reachSection_17 : decode cX7_reachSection 17 = .ok (.ifCond .ne 12, 3) := by decide +kernel
theorem dX7_reachSection_20 : decode cX7_reachSection 20 = .ok (.aload_n 0, 1) := by decide +kernel
theorem dX7_reachSection_21 : decode cX7_reachSection 21 = .ok (.getfield 15, 3) := by decide +kernel
theorem dX7_reachSection_24 : decode cX7_reachSection 24 = .ok (.bipush 24, 2) := by decide +kernel
theorem dX7_reachSection_26 : decode cX7_reachSection 26 = .ok (.if_icmp .lt 4, 3) := by decide +kernel
theorem dX7_reachSection_29 : decode cX7_reachSection 29 = .ok (.return_, 1) := by decide +kernel
theorem dX7_reachSection_30 : decode cX7_reachSection 30 = .ok (.aload_n 0, 1) := by decide +kernel
theorem dX7_reachSection_31 : decode cX7_reachSection 31 = .ok (.dup, 1) := by decide +kernel
theorem dX7_reachSection_32 : decode cX7_reachSection 32 = .ok (.getfield 19, 3) := by decide +kernel
theorem dX7_reachSection_35 : decode cX7_reachSection 35 = .ok (.iconst 1, 1) := by decide +kernel
theorem dX7_reachSection_36 : decode cX7_reachSection 36 = .ok (.iload_n 1, 1) := by decide +kernel
theorem dX7_reachSection_37 : decode cX7_reachSection 37 = .ok (.ishl, 1) := by decide +kernel
theorem dX7_reachSection_38 : decode cX7_reachSection 38 = .ok (.ior, 1) := by decide +kernel
theorem dX7_reachSection_39 : decode cX7_reachSection 39 = .ok (.putfield 19, 3) := by decide +kernel
theorem dX7_reachSection_42 : decode cX7_reachSection 42 = .ok (.aload_n 0, 1) := by decide +kernel
theorem dX7_reachSection_43 : decode cX7_reachSection 43 = .ok (.getfield 9, 3) := by decide +kernel
theorem dX7_reachSection_46 : decode cX7_reachSection 46 = .ok (.aload_n 0, 1) := by decide +kernel
theorem dX7_reachSection_47 : decode cX7_reachSection 47 = .ok (.getfield 15, 3) := by decide +kernel
theorem dX7_reachSection_50 : decode cX7_reachSection 50 = .ok (.iload_n 1, 1) := by decide +kernel
theorem dX7_reachSection_51 : decode cX7_reachSection 51 = .ok (.iastore, 1) := by decide +kernel
theorem dX7_reachSection_52 : decode cX7_reachSection 52 = .ok (.aload_n 0, 1) := by decide +kernel
theorem dX7_reachSection_53 : decode cX7_reachSection 53 = .ok (.dup, 1) := by decide +kernel
theorem dX7_reachSection_54 : decode cX7_reachSection 54 = .ok (.getfield 15, 3) := by decide +kernel
theorem dX7_reachSection_57 : decode cX7_reachSection 57 = .ok (.iconst 1, 1) := by decide +kernel
theorem dX7_reachSection_58 : decode cX7_reachSection 58 = .ok (.iadd, 1) := by decide +kernel
theorem dX7_reachSection_59 : decode cX7_reachSection 59 = .ok (.putfield 15, 3) := by decide +kernel
theorem dX7_reachSection_62 : decode cX7_reachSection 62 = .ok (.return_, 1) := by decide +kernel
def g_X7_reachSection : Nat → EA := (t_n 35 (t_n 17 (t_n 9 (t_n 3 (t_n 1 (t_l 0 (a_iload 1 1)) (t_l 1 (a_push 2 (.int 24)))) (t_n 6 (t_l 3 (a_inv false 192 2 none)) (t_l 6 (a_if 29 (fun x => decide (x = 0)))))) (t_n 13 (t_n 10 (t_l 9 (a_aload 1 0)) (t_l 10 (a_getf 7 5))) (t_n 14 (t_l 13 (a_iload 1 1)) (t_l 14 (a_inv false 196 2 none))))) (t_n 26 (t_n 21 (t_n 20 (t_l 17 (a_if 29 (fun x => !decide (x = 0)))) (t_l 20 (a_aload 1 0))) (t_n 24 (t_l 21 (a_getf 7 4)) (t_l 24 (a_push 2 (.int 24))))) (t_n 30 (t_n 29 (t_l 26 (a_ic 30 (fun x y => decide (x < y)))) (t_l 29 a_vret)) (t_n 31 (t_l 30 (a_aload 1 0)) (t_n 32 (t_l 31 a_dup) (t_l 32 (a_getf 7 5))))))) (t_n 50 (t_n 39 (t_n 37 (t_n 36 (t_l 35 (a_push 1 (.int 1))) (t_l 36 (a_iload 1 1))) (t_n 38 (t_l 37 (a_ii 1 (fun x y => x <<< (y &&& 31)))) (t_l 38 (a_ii 1 (fun x y => x ||| y))))) (t_n 43 (t_n 42 (t_l 39 (a_putf 0 7 5)) (t_l 42 (a_aload 1 0))) (t_n 46 (t_l 43 (a_getf 7 3)) (t_n 47 (t_l 46 (a_aload 1 0)) (t_l 47 (a_getf 7 4)))))) (t_n 54 (t_n 52 (t_n 51 (t_l 50 (a_iload 1 1)) (t_l 51 (a_ist 0))) (t_n 53 (t_l 52 (a_aload 1 0)) (t_l 53 a_dup))) (t_n 58 (t_n 57 (t_l 54 (a_getf 7 4)) (t_l 57 (a_push 1 (.int 1)))) (t_n 59 (t_l 58 (a_ii 1 (fun x y => x + y))) (t_n 62 (t_l 59 (a_putf 0 7 4)) (t_l 62 a_vret)))))))
set_option maxRecDepth 100000 in
theorem k_X7_reachSection (sc : Nat × (Nat → Int32)) (d : Nat) : ∀ pc, ev_Ok cX7_reachSection 2 [] RX7 lw_g lw_n (lw_q sc) vwCl false (ev_CO mt lw_g lw_n (lw_q sc) vwCl d) pc (g_X7_reachSection pc) := (ok_t_n (ok_t_n (ok_t_n (ok_t_n (ok_t_n (ok_t_l (ok_iload_n dX7_reachSection_0 rfl)) (ok_t_l (ok_bipush dX7_reachSection_1 rfl))) (ok_t_n (ok_t_l (ok_inv (run_SN (y := 192) (n := 2) dX7_reachSection_3 cz_192 gdG cc_192 ci_192 nst_6 cm_192 cd_192 cl_192))) (ok_t_l (ok_if_eq dX7_reachSection_6 rfl)))) (ok_t_n (ok_t_n (ok_t_l (ok_aload_n dX7_reachSection_9 rfl)) (ok_t_l (ok_getfield dX7_reachSection_10 (ci := 7) (kf := 5) rfl inGX7 (by decide) w_1202))) (ok_t_n (ok_t_l (ok_iload_n dX7_reachSection_13 rfl)) (ok_t_l (ok_inv (run_SN (y := 196) (n := 2) dX7_reachSection_14 cz_196 gdG cc_196 ci_196 nst_7 cm_196 cd_196 cl_196)))))) (ok_t_n (ok_t_n (ok_t_n (ok_t_l (ok_if_ne dX7_reachSection_17 rfl)) (ok_t_l (ok_aload_n dX7_reachSection_20 rfl))) (ok_t_n (ok_t_l (ok_getfield dX7_reachSection_21 (ci := 7) (kf := 4) rfl inGX7 (by decide) w_1201)) (ok_t_l (ok_bipush dX7_reachSection_24 rfl)))) (ok_t_n (ok_t_n (ok_t_l (ok_icmp_lt dX7_reachSection_26 rfl)) (ok_t_l (ok_vreturn dX7_reachSection_29))) (ok_t_n (ok_t_l (ok_aload_n dX7_reachSection_30 rfl)) (ok_t_n (ok_t_l (ok_dup dX7_reachSection_31)) (ok_t_l (ok_getfield dX7_reachSection_32 (ci := 7) (kf := 5) rfl inGX7 (by decide) w_1202))))))) (ok_t_n (ok_t_n (ok_t_n (ok_t_n (ok_t_l (ok_iconst dX7_reachSection_35 rfl)) (ok_t_l (ok_iload_n dX7_reachSection_36 rfl))) (ok_t_n (ok_t_l (ok_ishl dX7_reachSection_37)) (ok_t_l (ok_ior dX7_reachSection_38)))) (ok_t_n (ok_t_n (ok_t_l (ok_putfield dX7_reachSection_39 (ci := 7) (kf := 5) rfl inGX7 (by decide) tyX7_ok nmX7 rfl w_1202 rfl)) (ok_t_l (ok_aload_n dX7_reachSection_42 rfl))) (ok_t_n (ok_t_l (ok_getfield dX7_reachSection_43 (ci := 7) (kf := 3) rfl inGX7 (by decide) w_1200)) (ok_t_n (ok_t_l (ok_aload_n dX7_reachSection_46 rfl)) (ok_t_l (ok_getfield dX7_reachSection_47 (ci := 7) (kf := 4) rfl inGX7 (by decide) w_1201)))))) (ok_t_n (ok_t_n (ok_t_n (ok_t_l (ok_iload_n dX7_reachSection_50 rfl)) (ok_t_l (ok_iastore dX7_reachSection_51))) (ok_t_n (ok_t_l (ok_aload_n dX7_reachSection_52 rfl)) (ok_t_l (ok_dup dX7_reachSection_53)))) (ok_t_n (ok_t_n (ok_t_l (ok_getfield dX7_reachSection_54 (ci := 7) (kf := 4) rfl inGX7 (by decide) w_1201)) (ok_t_l (ok_iconst dX7_reachSection_57 rfl))) (ok_t_n (ok_t_l (ok_iadd dX7_reachSection_58)) (ok_t_n (ok_t_l (ok_putfield dX7_reachSection_59 (ci := 7) (kf := 4) rfl inGX7 (by decide) tyX7_ok nmX7 rfl w_1201 rfl)) (ok_t_l (ok_vreturn dX7_reachSection_62))))))))
theorem dX8_init_0 : decode cX8_init 0 = .ok (.aload_n 0, 1) := by decide +kernel
theorem dX8_init_1 : decode cX8_init 1 = .ok (.invokespecial 3, 3) := by decide +kernel
theorem dX8_init_4 : decode cX8_init 4 = .ok (.aload_n 0, 1) := by decide +kernel
theorem dX8_init_5 : decode cX8_init 5 = .ok (.bipush 24, 2) := by decide +kernel
theorem dX8_init_7 : decode cX8_init 7 = .ok (.newarray .int, 2) := by decide +kernel
theorem dX8_init_9 : decode cX8_init 9 = .ok (.putfield 9, 3) := by decide +kernel
theorem dX8_init_12 : decode cX8_init 12 = .ok (.aload_n 0, 1) := by decide +kernel
theorem dX8_init_13 : decode cX8_init 13 = .ok (.bipush 24, 2) := by decide +kernel
theorem dX8_init_15 : decode cX8_init 15 = .ok (.newarray .int, 2) := by decide +kernel
theorem dX8_init_17 : decode cX8_init 17 = .ok (.putfield 15, 3) := by decide +kernel
theorem dX8_init_20 : decode cX8_init 20 = .ok (.aload_n 0, 1) := by decide +kernel
theorem dX8_init_21 : decode cX8_init 21 = .ok (.bipush 24, 2) := by decide +kernel
theorem dX8_init_23 : decode cX8_init 23 = .ok (.newarray .boolean, 2) := by decide +kernel
theorem dX8_init_25 : decode cX8_init 25 = .ok (.putfield 18, 3) := by decide +kernel
theorem dX8_init_28 : decode cX8_init 28 = .ok (.aload_n 0, 1) := by decide +kernel
theorem dX8_init_29 : decode cX8_init 29 = .ok (.bipush 24, 2) := by decide +kernel
theorem dX8_init_31 : decode cX8_init 31 = .ok (.newarray .int, 2) := by decide +kernel
theorem dX8_init_33 : decode cX8_init 33 = .ok (.putfield 22, 3) := by decide +kernel
theorem dX8_init_36 : decode cX8_init 36 = .ok (.aload_n 0, 1) := by decide +kernel
theorem dX8_init_37 : decode cX8_init 37 = .ok (.sipush 192, 3) := by decide +kernel
theorem dX8_init_40 : decode cX8_init 40 = .ok (.newarray .int, 2) := by decide +kernel
theorem dX8_init_42 : decode cX8_init 42 = .ok (.putfield 25, 3) := by decide +kernel
theorem dX8_init_45 : decode cX8_init 45 = .ok (.aload_n 0, 1) := by decide +kernel
theorem dX8_init_46 : decode cX8_init 46 = .ok (.sipush 192, 3) := by decide +kernel
theorem dX8_init_49 : decode cX8_init 49 = .ok (.newarray .int, 2) := by decide +kernel
theorem dX8_init_51 : decode cX8_init 51 = .ok (.putfield 28, 3) := by decide +kernel
theorem dX8_init_54 : decode cX8_init 54 = .ok (.aload_n 0, 1) := by decide +kernel
theorem dX8_init_55 : decode cX8_init 55 = .ok (.sipush 192, 3) := by decide +kernel
theorem dX8_init_58 : decode cX8_init 58 = .ok (.newarray .int, 2) := by decide +kernel
theorem dX8_init_60 : decode cX8_init 60 = .ok (.putfield 31, 3) := by decide +kernel
theorem dX8_init_63 : decode cX8_init 63 = .ok (.aload_n 0, 1) := by decide +kernel
theorem dX8_init_64 : decode cX8_init 64 = .ok (.sipush 192, 3) := by decide +kernel
theorem dX8_init_67 : decode cX8_init 67 = .ok (.newarray .boolean, 2) := by decide +kernel
theorem dX8_init_69 : decode cX8_init 69 = .ok (.putfield 34, 3) := by decide +kernel
theorem dX8_init_72 : decode cX8_init 72 = .ok (.aload_n 0, 1) := by decide +kernel
theorem dX8_init_73 : decode cX8_init 73 = .ok (.iconst 0, 1) := by decide +kernel
theorem dX8_init_74 : decode cX8_init 74 = .ok (.putfield 37, 3) := by decide +kernel
theorem dX8_init_77 : decode cX8_init 77 = .ok (.return_, 1) := by decide +kernel
def g_X8_init : Nat → EA := (t_n 37 (t_n 17 (t_n 7 (t_n 4 (t_n 1 (t_l 0 (a_aload 1 0)) (t_l 1 a_objI)) (t_n 5 (t_l 4 (a_aload 1 0)) (t_l 5 (a_push 2 (.int 24))))) (t_n 12 (t_n 9 (t_l 7 (a_newa 0)) (t_l 9 (a_putf 9 8 0))) (t_n 13 (t_l 12 (a_aload 1 0)) (t_n 15 (t_l 13 (a_push 2 (.int 24))) (t_l 15 (a_newa 0)))))) (t_n 28 (t_n 21 (t_n 20 (t_l 17 (a_putf 9 8 1)) (t_l 20 (a_aload 1 0))) (t_n 23 (t_l 21 (a_push 2 (.int 24))) (t_n 25 (t_l 23 (a_newa 1)) (t_l 25 (a_putf 9 8 2))))) (t_n 31 (t_n 29 (t_l 28 (a_aload 1 0)) (t_l 29 (a_push 2 (.int 24)))) (t_n 33 (t_l 31 (a_newa 0)) (t_n 36 (t_l 33 (a_putf 9 8 3)) (t_l 36 (a_aload 1 0))))))) (t_n 58 (t_n 46 (t_n 42 (t_n 40 (t_l 37 (a_push 3 (.int 192))) (t_l 40 (a_newa 0))) (t_n 45 (t_l 42 (a_putf 9 8 4)) (t_l 45 (a_aload 1 0)))) (t_n 51 (t_n 49 (t_l 46 (a_push 3 (.int 192))) (t_l 49 (a_newa 0))) (t_n 54 (t_l 51 (a_putf 9 8 5)) (t_n 55 (t_l 54 (a_aload 1 0)) (t_l 55 (a_push 3 (.int 192))))))) (t_n 69 (t_n 63 (t_n 60 (t_l 58 (a_newa 0)) (t_l 60 (a_putf 9 8 6))) (t_n 64 (t_l 63 (a_aload 1 0)) (t_n 67 (t_l 64 (a_push 3 (.int 192))) (t_l 67 (a_newa 1))))) (t_n 73 (t_n 72 (t_l 69 (a_putf 9 8 7)) (t_l 72 (a_aload 1 0))) (t_n 74 (t_l 73 (a_push 1 (.int 0))) (t_n 77 (t_l 74 (a_putf 0 8 8)) (t_l 77 a_vret)))))))
set_option maxRecDepth 100000 in
theorem k_X8_init (sc : Nat × (Nat → Int32)) (d : Nat) : ∀ pc, ev_Ok cX8_init 1 [] RX8 lw_g lw_n (lw_q sc) vwCl true (ev_CO mt lw_g lw_n (lw_q sc) vwCl d) pc (g_X8_init pc) := (ok_t_n (ok_t_n (ok_t_n (ok_t_n (ok_t_n (ok_t_l (ok_aload_n dX8_init_0 rfl)) (ok_t_l (ok_objinit dX8_init_1 w_1001 w_94 w_obj ev_CO.small))) (ok_t_n (ok_t_l (ok_aload_n dX8_init_4 rfl)) (ok_t_l (ok_bipush dX8_init_5 rfl)))) (ok_t_n (ok_t_n (ok_t_l (ok_newint dX8_init_7 w_614)) (ok_t_l (ok_putfieldF dX8_init_9 (ci := 8) (kf := 0) rfl inGX8 (by decide) tyX8_ok nmX8 rfl w_1002 rfl rfl rfl))) (ok_t_n (ok_t_l (ok_aload_n dX8_init_12 rfl)) (ok_t_n (ok_t_l (ok_bipush dX8_init_13 rfl)) (ok_t_l (ok_newint dX8_init_15 w_614)))))) (ok_t_n (ok_t_n (ok_t_n (ok_t_l (ok_putfieldF dX8_init_17 (ci := 8) (kf := 1) rfl inGX8 (by decide) tyX8_ok nmX8 rfl w_1003 rfl rfl rfl)) (ok_t_l (ok_aload_n dX8_init_20 rfl))) (ok_t_n (ok_t_l (ok_bipush dX8_init_21 rfl)) (ok_t_n (ok_t_l (ok_newboolean dX8_init_23 w_1030)) (ok_t_l (ok_putfieldF dX8_init_25 (ci := 8) (kf := 2) rfl inGX8 (by decide) tyX8_ok nmX8 rfl w_1004 rfl rfl rfl))))) (ok_t_n (ok_t_n (ok_t_l (ok_aload_n dX8_init_28 rfl)) (ok_t_l (ok_bipush dX8_init_29 rfl))) (ok_t_n (ok_t_l (ok_newint dX8_init_31 w_614)) (ok_t_n (ok_t_l (ok_putfieldF dX8_init_33 (ci := 8) (kf := 3) rfl inGX8 (by decide) tyX8_ok nmX8 rfl w_1005 rfl rfl rfl)) (ok_t_l (ok_aload_n dX8_init_36 rfl))))))) (ok_t_n (ok_t_n (ok_t_n (ok_t_n (ok_t_l (ok_sipush dX8_init_37 rfl)) (ok_t_l (ok_newint dX8_init_40 w_614))) (ok_t_n (ok_t_l (ok_putfieldF dX8_init_42 (ci := 8) (kf := 4) rfl inGX8 (by decide) tyX8_ok nmX8 rfl w_1006 rfl rfl rfl)) (ok_t_l (ok_aload_n dX8_init_45 rfl)))) (ok_t_n (ok_t_n (ok_t_l (ok_sipush dX8_init_46 rfl)) (ok_t_l (ok_newint dX8_init_49 w_614))) (ok_t_n (ok_t_l (ok_putfieldF dX8_init_51 (ci := 8) (kf := 5) rfl inGX8 (by decide) tyX8_ok nmX8 rfl w_1007 rfl rfl rfl)) (ok_t_n (ok_t_l (ok_aload_n dX8_init_54 rfl)) (ok_t_l (ok_sipush dX8_init_55 rfl)))))) (ok_t_n (ok_t_n (ok_t_n (ok_t_l (ok_newint dX8_init_58 w_614)) (ok_t_l (ok_putfieldF dX8_init_60 (ci := 8) (kf := 6) rfl inGX8 (by decide) tyX8_ok nmX8 rfl w_1008 rfl rfl rfl))) (ok_t_n (ok_t_l (ok_aload_n dX8_init_63 rfl)) (ok_t_n (ok_t_l (ok_sipush dX8_init_64 rfl)) (ok_t_l (ok_newboolean dX8_init_67 w_1030))))) (ok_t_n (ok_t_n (ok_t_l (ok_putfieldF dX8_init_69 (ci := 8) (kf := 7) rfl inGX8 (by decide) tyX8_ok nmX8 rfl w_1009 rfl rfl rfl)) (ok_t_l (ok_aload_n dX8_init_72 rfl))) (ok_t_n (ok_t_l (ok_iconst dX8_init_73 rfl)) (ok_t_n (ok_t_l (ok_putfield dX8_init_74 (ci := 8) (kf := 8) rfl inGX8 (by decide) tyX8_ok nmX8 rfl w_1010 rfl)) (ok_t_l (ok_vreturn dX8_init_77))))))))
theorem dX8_count_0 : decode cX8_count 0 = .ok (.aload_n 0, 1) := by decide +kernel
theorem dX8_count_1 : decode cX8_count 1 = .ok (.getfield 37, 3) := by decide +kernel
theorem dX8_count_4 : decode cX8_count 4 = .ok (.ireturn, 1) := by decide +kernel
def g_X8_count : Nat → EA := (t_n 1 (t_l 0 (a_aload 1 0)) (t_n 4 (t_l 1 (a_getf 8 8)) (t_l 4 a_iret)))
set_option maxRecDepth 100000 in
theorem k_X8_count (sc : Nat × (Nat → Int32)) (d : Nat) : ∀ pc, ev_Ok cX8_count 1 [] RX8 lw_g lw_n (lw_q sc) vwCl false (ev_CO mt lw_g lw_n (lw_q sc) vwCl d) pc (g_X8_count pc) := (ok_t_n (ok_t_l (ok_aload_n dX8_count_0 rfl)) (ok_t_n (ok_t_l (ok_getfield dX8_count_1 (ci := 8) (kf := 8) rfl inGX8 (by decide) w_1010)) (ok_t_l (ok_ireturn dX8_count_4))))
theorem dX8_isFull_0 : decode cX8_isFull 0 = .ok (.aload_n 0, 1) := by decide +kernel
theorem dX8_isFull_1 : decode cX8_isFull 1 = .ok (.getfield 37, 3) := by decide +kernel
theorem dX8_isFull_4 : decode cX8_isFull 4 = .ok (.bipush 24, 2) := by decide +kernel
theorem dX8_isFull_6 : decode cX8_isFull 6 = .ok (.if_icmp .lt 7, 3) := by decide +kernel
theorem dX8_isFull_9 : decode cX8_isFull 9 = .ok (.iconst 1, 1) := by decide +kernel
theorem dX8_isFull_10 : decode cX8_isFull 10 = .ok (.goto 4, 3) := by decide +kernel
theorem dX8_isFull_13 : decode cX8_isFull 13 = .ok (.iconst 0, 1) := by decide +kernel
theorem dX8_isFull_14 : decode cX8_isFull 14 = .ok (.ireturn, 1) := by decide +kernel
def g_X8_isFull : Nat → EA := (t_n 9 (t_n 4 (t_n 1 (t_l 0 (a_aload 1 0)) (t_l 1 (a_getf 8 8))) (t_n 6 (t_l 4 (a_push 2 (.int 24))) (t_l 6 (a_ic 13 (fun x y => decide (x < y)))))) (t_n 13 (t_n 10 (t_l 9 (a_push 1 (.int 1))) (t_l 10 (a_goto 14))) (t_n 14 (t_l 13 (a_push 1 (.int 0))) (t_l 14 a_iret))))
set_option maxRecDepth 100000 in
theorem k_X8_isFull (sc : Nat × (Nat → Int32)) (d : Nat) : ∀ pc, ev_Ok cX8_isFull 1 [] RX8 lw_g lw_n (lw_q sc) vwCl false (ev_CO mt lw_g lw_n (lw_q sc) vwCl d) pc (g_X8_isFull pc) := (ok_t_n (ok_t_n (ok_t_n (ok_t_l (ok_aload_n dX8_isFull_0 rfl)) (ok_t_l (ok_getfield dX8_isFull_1 (ci := 8) (kf := 8) rfl inGX8 (by decide) w_1010))) (ok_t_n (ok_t_l (ok_bipush dX8_isFull_4 rfl)) (ok_t_l (ok_icmp_lt dX8_isFull_6 rfl)))) (ok_t_n (ok_t_n (ok_t_l (ok_iconst dX8_isFull_9 rfl)) (ok_t_l (ok_goto dX8_isFull_10 rfl))) (ok_t_n (ok_t_l (ok_iconst dX8_isFull_13 rfl)) (ok_t_l (ok_ireturn dX8_isFull_14)))))
theorem dX8_has_0 : decode cX8_has 0 = .ok (.iload_n 1, 1) := by decide +kernel
theorem dX8_has_1 : decode cX8_has 1 = .ok (.ifCond .lt 21, 3) := by decide +kernel
theorem dX8_has_4 : decode cX8_has 4 = .ok (.iload_n 1, 1) := by decide +kernel
theorem dX8_has_5 : decode cX8_has 5 = .ok (.aload_n 0, 1) := by decide +kernel
theorem dX8_has_6 : decode cX8_has 6 = .ok (.getfield 37, 3) := by decide +kernel
theorem dX8_has_9 : decode cX8_has 9 = .ok (.if_icmp .ge 13, 3) := by decide +kernel
theorem dX8_has_12 : decode cX8_has 12 = .ok (.iload_n 1, 1) := by decide +kernel
theorem dX8_has_13 : decode cX8_has 13 = .ok (.bipush 24, 2) := by decide +kernel
theorem dX8_has_15 : decode cX8_has 15 = .ok (.if_icmp .ge 7, 3) := by decide +kernel
theorem dX8_has_18 : decode cX8_has 18 = .ok (.iconst 1, 1) := by decide +kernel
theorem dX8_has_19 : decode cX8_has 19 = .ok (.goto 4, 3) := by decide +kernel
theorem dX8_has_22 : decode cX8_has 22 = .ok (.iconst 0, 1) := by decide +kernel
theorem dX8_has_23 : decode cX8_has 23 = .ok (.ireturn, 1) := by decide +kernel
def g_X8_has : Nat → EA := (t_n 12 (t_n 5 (t_n 1 (t_l 0 (a_iload 1 1)) (t_n 4 (t_l 1 (a_if 22 (fun x => decide (x < 0)))) (t_l 4 (a_iload 1 1)))) (t_n 6 (t_l 5 (a_aload 1 0)) (t_n 9 (t_l 6 (a_getf 8 8)) (t_l 9 (a_ic 22 (fun x y => decide (y ≤ x))))))) (t_n 18 (t_n 13 (t_l 12 (a_iload 1 1)) (t_n 15 (t_l 13 (a_push 2 (.int 24))) (t_l 15 (a_ic 22 (fun x y => decide (y ≤ x)))))) (t_n 22 (t_n 19 (t_l 18 (a_push 1 (.int 1))) (t_l 19 (a_goto 23))) (t_n 23 (t_l 22 (a_push 1 (.int 0))) (t_l 23 a_iret)))))
set_option maxRecDepth 100000 in
theorem k_X8_has (sc : Nat × (Nat → Int32)) (d : Nat) : ∀ pc, ev_Ok cX8_has 2 [] RX8 lw_g lw_n (lw_q sc) vwCl false (ev_CO mt lw_g lw_n (lw_q sc) vwCl d) pc (g_X8_has pc) := (ok_t_n (ok_t_n (ok_t_n (ok_t_l (ok_iload_n dX8_has_0 rfl)) (ok_t_n (ok_t_l (ok_if_lt dX8_has_1 rfl)) (ok_t_l (ok_iload_n dX8_has_4 rfl)))) (ok_t_n (ok_t_l (ok_aload_n dX8_has_5 rfl)) (ok_t_n (ok_t_l (ok_getfield dX8_has_6 (ci := 8) (kf := 8) rfl inGX8 (by decide) w_1010)) (ok_t_l (ok_icmp_ge dX8_has_9 rfl))))) (ok_t_n (ok_t_n (ok_t_l (ok_iload_n dX8_has_12 rfl)) (ok_t_n (ok_t_l (ok_bipush dX8_has_13 rfl)) (ok_t_l (ok_icmp_ge dX8_has_15 rfl)))) (ok_t_n (ok_t_n (ok_t_l (ok_iconst dX8_has_18 rfl)) (ok_t_l (ok_goto dX8_has_19 rfl))) (ok_t_n (ok_t_l (ok_iconst dX8_has_22 rfl)) (ok_t_l (ok_ireturn dX8_has_23))))))
theorem dX8_add_0 : decode cX8_add 0 = .ok (.aload_n 0, 1) := by decide +kernel
theorem dX8_add_1 : decode cX8_add 1 = .ok (.invokevirtual 41, 3) := by decide +kernel
theorem dX8_add_4 : decode cX8_add 4 = .ok (.ifCond .eq 5, 3) := by decide +kernel
theorem dX8_add_7 : decode cX8_add 7 = .ok (.iconst (-1), 1) := by decide +kernel
theorem dX8_add_8 : decode cX8_add 8 = .ok (.ireturn, 1) := by decide +kernel
theorem dX8_add_9 : decode cX8_add 9 = .ok (.aload_n 0, 1) := by decide +kernel
theorem dX8_add_10 : decode cX8_add 10 = .ok (.getfield 9, 3) := by decide +kernel
theorem dX8_add_13 : decode cX8_add 13 = .ok (.aload_n 0, 1) := by decide +kernel
theorem dX8_add_14 : decode cX8_add 14 = .ok (.getfield 37, 3) := by decide +kernel
theorem dX8_add_17 : decode cX8_add 17 = .ok (.iload_n 1, 1) := by decide +kernel
theorem dX8_add_18 : decode cX8_add 18 = .ok (.iastore, 1) := by decide +kernel
theorem dX8_add_19 : decode cX8_add 19 = .ok (.aload_n 0, 1) := by decide +kernel
theorem dX8_add_20 : decode cX8_add 20 = .ok (.getfield 15, 3) := by decide +kernel
theorem dX8_add_23 : decode cX8_add 23 = .ok (.aload_n 0, 1) := by decide +kernel
theorem dX8_add_24 : decode cX8_add 24 = .ok (.getfield 37, 3) := by decide +kernel
theorem dX8_add_27 : decode cX8_add 27 = .ok (.iload_n 2, 1) := by decide +kernel
theorem dX8_add_28 : decode cX8_add 28 = .ok (.iastore, 1) := by decide +kernel
theorem dX8_add_29 : decode cX8_add 29 = .ok (.aload_n 0, 1) := by decide +kernel
theorem dX8_add_30 : decode cX8_add 30 = .ok (.getfield 18, 3) := by decide +kernel
theorem dX8_add_33 : decode cX8_add 33 = .ok (.aload_n 0, 1) := by decide +kernel
theorem dX8_add_34 : decode cX8_add 34 = .ok (.getfield 37, 3) := by decide +kernel
theorem dX8_add_37 : decode cX8_add 37 = .ok (.iload_n 3, 1) := by decide +kernel
theorem dX8_add_38 : decode cX8_add 38 = .ok (.bastore, 1) := by decide +kernel
theorem dX8_add_39 : decode cX8_add 39 = .ok (.aload_n 0, 1) := by decide +kernel
theorem dX8_add_40 : decode cX8_add 40 = .ok (.dup, 1) := by decide +kernel
theorem dX8_add_41 : decode cX8_add 41 = .ok (.getfield 37, 3) := by decide +kernel
theorem dX8_add_44 : decode cX8_add 44 = .ok (.iconst 1, 1) := by decide +kernel
theorem dX8_add_45 : decode cX8_add 45 = .ok (.iadd, 1) := by decide +kernel
theorem dX8_add_46 : decode cX8_add 46 = .ok (.putfield 37, 3) := by decide +kernel
theorem dX8_add_49 : decode cX8_add 49 = .ok (.aload_n 0, 1) := by decide +kernel
theorem dX8_add_50 : decode cX8_add 50 = .ok (.getfield 37, 3) := by decide +kernel
theorem dX8_add_53 : decode cX8_add 53 = .ok (.iconst 1, 1) := by decide +kernel
theorem dX8_add_54 : decode cX8_add 54 = .ok (.isub, 1) := by decide +kernel
theorem dX8_add_55 : decode cX8_add 55 = .ok (.ireturn, 1) := by decide +kernel
def g_X8_add : Nat → EA := (t_n 29 (t_n 14 (t_n 8 (t_n 4 (t_n 1 (t_l 0 (a_aload 1 0)) (t_l 1 (a_inv true 118 1 (some 8)))) (t_n 7 (t_l 4 (a_if 9 (fun x => decide (x = 0)))) (t_l 7 (a_push 1 (.int (-1)))))) (t_n 10 (t_n 9 (t_l 8 a_iret) (t_l 9 (a_aload 1 0))) (t_n 13 (t_l 10 (a_getf 8 0)) (t_l 13 (a_aload 1 0))))) (t_n 20 (t_n 18 (t_n 17 (t_l 14 (a_getf 8 8)) (t_l 17 (a_iload 1 1))) (t_n 19 (t_l 18 (a_ist 0)) (t_l 19 (a_aload 1 0)))) (t_n 24 (t_n 23 (t_l 20 (a_getf 8 1)) (t_l 23 (a_aload 1 0))) (t_n 27 (t_l 24 (a_getf 8 8)) (t_n 28 (t_l 27 (a_iload 1 2)) (t_l 28 (a_ist 0))))))) (t_n 41 (t_n 37 (t_n 33 (t_n 30 (t_l 29 (a_aload 1 0)) (t_l 30 (a_getf 8 2))) (t_n 34 (t_l 33 (a_aload 1 0)) (t_l 34 (a_getf 8 8)))) (t_n 39 (t_n 38 (t_l 37 (a_iload 1 3)) (t_l 38 (a_ist 1))) (t_n 40 (t_l 39 (a_aload 1 0)) (t_l 40 a_dup)))) (t_n 49 (t_n 45 (t_n 44 (t_l 41 (a_getf 8 8)) (t_l 44 (a_push 1 (.int 1)))) (t_n 46 (t_l 45 (a_ii 1 (fun x y => x + y))) (t_l 46 (a_putf 0 8 8)))) (t_n 53 (t_n 50 (t_l 49 (a_aload 1 0)) (t_l 50 (a_getf 8 8))) (t_n 54 (t_l 53 (a_push 1 (.int 1))) (t_n 55 (t_l 54 (a_ii 1 (fun x y => x - y))) (t_l 55 a_iret)))))))
set_option maxRecDepth 100000 in
theorem k_X8_add (sc : Nat × (Nat → Int32)) (d : Nat) : ∀ pc, ev_Ok cX8_add 4 [] RX8 lw_g lw_n (lw_q sc) vwCl false (ev_CO mt lw_g lw_n (lw_q sc) vwCl d) pc (g_X8_add pc) := (ok_t_n (ok_t_n (ok_t_n (ok_t_n (ok_t_n (ok_t_l (ok_aload_n dX8_add_0 rfl)) (ok_t_l (ok_inv (run_V (y := 118) (n := 0) (ci := 8) dX8_add_1 cz_118 gdG cc_118 ci_118 w_194 cm_118 cs_118 cd_118 cl_118 rfl rfl)))) (ok_t_n (ok_t_l (ok_if_eq dX8_add_4 rfl)) (ok_t_l (ok_iconst dX8_add_7 rfl)))) (ok_t_n (ok_t_n (ok_t_l (ok_ireturn dX8_add_8)) (ok_t_l (ok_aload_n dX8_add_9 rfl))) (ok_t_n (ok_t_l (ok_getfield dX8_add_10 (ci := 8) (kf := 0) rfl inGX8 (by decide) w_1002)) (ok_t_l (ok_aload_n dX8_add_13 rfl))))) (ok_t_n (ok_t_n (ok_t_n (ok_t_l (ok_getfield dX8_add_14 (ci := 8) (kf := 8) rfl inGX8 (by decide) w_1010)) (ok_t_l (ok_iload_n dX8_add_17 rfl))) (ok_t_n (ok_t_l (ok_iastore dX8_add_18)) (ok_t_l (ok_aload_n dX8_add_19 rfl)))) (ok_t_n (ok_t_n (ok_t_l (ok_getfield dX8_add_20 (ci := 8) (kf := 1) rfl inGX8 (by decide) w_1003)) (ok_t_l (ok_aload_n dX8_add_23 rfl))) (ok_t_n (ok_t_l (ok_getfield dX8_add_24 (ci := 8) (kf := 8) rfl inGX8 (by decide) w_1010)) (ok_t_n (ok_t_l (ok_iload_n dX8_add_27 rfl)) (ok_t_l (ok_iastore dX8_add_28))))))) (ok_t_n (ok_t_n (ok_t_n (ok_t_n (ok_t_l (ok_aload_n dX8_add_29 rfl)) (ok_t_l (ok_getfield dX8_add_30 (ci := 8) (kf := 2) rfl inGX8 (by decide) w_1004))) (ok_t_n (ok_t_l (ok_aload_n dX8_add_33 rfl)) (ok_t_l (ok_getfield dX8_add_34 (ci := 8) (kf := 8) rfl inGX8 (by decide) w_1010)))) (ok_t_n (ok_t_n (ok_t_l (ok_iload_n dX8_add_37 rfl)) (ok_t_l (ok_zastore dX8_add_38))) (ok_t_n (ok_t_l (ok_aload_n dX8_add_39 rfl)) (ok_t_l (ok_dup dX8_add_40))))) (ok_t_n (ok_t_n (ok_t_n (ok_t_l (ok_getfield dX8_add_41 (ci := 8) (kf := 8) rfl inGX8 (by decide) w_1010)) (ok_t_l (ok_iconst dX8_add_44 rfl))) (ok_t_n (ok_t_l (ok_iadd dX8_add_45)) (ok_t_l (ok_putfield dX8_add_46 (ci := 8) (kf := 8) rfl inGX8 (by decide) tyX8_ok nmX8 rfl w_1010 rfl)))) (ok_t_n (ok_t_n (ok_t_l (ok_aload_n dX8_add_49 rfl)) (ok_t_l (ok_getfield dX8_add_50 (ci := 8) (kf := 8) rfl inGX8 (by decide) w_1010))) (ok_t_n (ok_t_l (ok_iconst dX8_add_53 rfl)) (ok_t_n (ok_t_l (ok_isub dX8_add_54)) (ok_t_l (ok_ireturn dX8_add_55))))))))
theorem dX8_isFilled_0 : decode cX8_isFilled 0 = .ok (.aload_n 0, 1) := by decide +kernel
theorem dX8_isFilled_1 : decode cX8_isFilled 1 = .ok (.iload_n 1, 1) := by decide +kernel
theorem dX8_isFilled_2 : decode cX8_isFilled 2 = .ok (.invokevirtual 45, 3) := by decide +kernel
theorem dX8_isFilled_5 : decode cX8_isFilled 5 = .ok (.bipush 8, 2) := by decide +kernel
theorem dX8_isFilled_7 : decode cX8_isFilled 7 = .ok (.if_icmp .lt 7, 3) := by decide +kernel
theorem dX8_isFilled_10 : decode cX8_isFilled 10 = .ok (.iconst 1, 1) := by decide +kernel
theorem dX8_isFilled_11 : decode cX8_isFilled 11 = .ok (.goto 4, 3) := by decide +kernel
theorem dX8_isFilled_14 : decode cX8_isFilled 14 = .ok (.iconst 0, 1) := by decide +kernel
theorem dX8_isFilled_15 : decode cX8_isFilled 15 = .ok (.ireturn, 1) := by decide +kernel
def g_X8_isFilled : Nat → EA := (t_n 7 (t_n 2 (t_n 1 (t_l 0 (a_aload 1 0)) (t_l 1 (a_iload 1 1))) (t_n 5 (t_l 2 (a_inv true 126 2 (some 8))) (t_l 5 (a_push 2 (.int 8))))) (t_n 11 (t_n 10 (t_l 7 (a_ic 14 (fun x y => decide (x < y)))) (t_l 10 (a_push 1 (.int 1)))) (t_n 14 (t_l 11 (a_goto 15)) (t_n 15 (t_l 14 (a_push 1 (.int 0))) (t_l 15 a_iret)))))
set_option maxRecDepth 100000 in
theorem k_X8_isFilled (sc : Nat × (Nat → Int32)) (d : Nat) : ∀ pc, ev_Ok cX8_isFilled 2 [] RX8 lw_g lw_n (lw_q sc) vwCl false (ev_CO mt lw_g lw_n (lw_q sc) vwCl d) pc (g_X8_isFilled pc) := (ok_t_n (ok_t_n (ok_t_n (ok_t_l (ok_aload_n dX8_isFilled_0 rfl)) (ok_t_l (ok_iload_n dX8_isFilled_1 rfl))) (ok_t_n (ok_t_l (ok_inv (run_V (y := 126) (n := 1) (ci := 8) dX8_isFilled_2 cz_126 gdG cc_126 ci_126 w_1449 cm_126 cs_126 cd_126 cl_126 rfl rfl))) (ok_t_l (ok_bipush dX8_isFilled_5 rfl)))) (ok_t_n (ok_t_n (ok_t_l (ok_icmp_lt dX8_isFilled_7 rfl)) (ok_t_l (ok_iconst dX8_isFilled_10 rfl))) (ok_t_n (ok_t_l (ok_goto dX8_isFilled_11 rfl)) (ok_t_n (ok_t_l (ok_iconst dX8_isFilled_14 rfl)) (ok_t_l (ok_ireturn dX8_isFilled_15))))))
theorem dX8_addPiece_0 : decode cX8_addPiece 0 = .ok (.aload_n 0, 1) := by decide +kernel
theorem dX8_addPiece_1 : decode cX8_addPiece 1 = .ok (.iload_n 1, 1) := by decide +kernel
theorem dX8_addPiece_2 : decode cX8_addPiece 2 = .ok (.invokevirtual 49, 3) := by decide +kernel
theorem dX8_addPiece_5 : decode cX8_addPiece 5 = .ok (.ifCond .eq 11, 3) := by decide +kernel
theorem dX8_addPiece_8 : decode cX8_addPiece 8 = .ok (.aload_n 0, 1) := by decide +kernel
theorem dX8_addPiece_9 : decode cX8_addPiece 9 = .ok (.iload_n 1, 1) := by decide +kernel
theorem dX8_addPiece_10 : decode cX8_addPiece 10 = .ok (.invokevirtual 53, 3) := by decide +kernel
theorem dX8_addPiece_13 : decode cX8_addPiece 13 = .ok (.ifCond .eq 5, 3) := by decide +kernel
theorem dX8_addPiece_16 : decode cX8_addPiece 16 = .ok (.iconst (-1), 1) := by decide +kernel
theorem dX8_addPiece_17 : decode cX8_addPiece 17 = .ok (.ireturn, 1) := by decide +kernel
theorem dX8_addPiece_18 : decode cX8_addPiece 18 = .ok (.aload_n 0, 1) := by decide +kernel
theorem dX8_addPiece_19 : decode cX8_addPiece 19 = .ok (.getfield 22, 3) := by decide +kernel
theorem dX8_addPiece_22 : decode cX8_addPiece 22 = .ok (.iload_n 1, 1) := by decide +kernel
theorem dX8_addPiece_23 : decode cX8_addPiece 23 = .ok (.iaload, 1) := by decide +kernel
theorem dX8_addPiece_24 : decode cX8_addPiece 24 = .ok (.istore 6, 2) := by decide +kernel
theorem dX8_addPiece_26 : decode cX8_addPiece 26 = .ok (.iload_n 1, 1) := by decide +kernel
theorem dX8_addPiece_27 : decode cX8_addPiece 27 = .ok (.bipush 8, 2) := by decide +kernel
theorem dX8_addPiece_29 : decode cX8_addPiece 29 = .ok (.imul, 1) := by decide +kernel
theorem dX8_addPiece_30 : decode cX8_addPiece 30 = .ok (.iload 6, 2) := by decide +kernel
theorem dX8_addPiece_32 : decode cX8_addPiece 32 = .ok (.iadd, 1) := by decide +kernel
theorem dX8_addPiece_33 : decode cX8_addPiece 33 = .ok (.istore 7, 2) := by decide +kernel
theorem dX8_addPiece_35 : decode cX8_addPiece 35 = .ok (.aload_n 0, 1) := by decide +kernel
theorem dX8_addPiece_36 : decode cX8_addPiece 36 = .ok (.getfield 25, 3) := by decide +kernel
theorem dX8_addPiece_39 : decode cX8_addPiece 39 = .ok (.iload 7, 2) := by decide +kernel
theorem dX8_addPiece_41 : decode cX8_addPiece 41 = .ok (.iload_n 2, 1) := by decide +kernel
theorem dX8_addPiece_42 : decode cX8_addPiece 42 = .ok (.iastore, 1) := by decide +kernel
theorem dX8_addPiece_43 : decode cX8_addPiece 43 = .ok (.aload_n 0, 1) := by decide +kernel
theorem dX8_addPiece_44 : decode cX8_addPiece 44 = .ok (.getfield 28, 3) := by decide +kernel
theorem dX8_addPiece_47 : decode cX8_addPiece 47 = .ok (.iload 7, 2) := by decide +kernel
theorem dX8_addPiece_49 : decode cX8_addPiece 49 = .ok (.iload_n 3, 1) := by decide +kernel
theorem dX8_addPiece_50 : decode cX8_addPiece 50 = .ok (.iastore, 1) := by decide +kernel
theorem dX8_addPiece_51 : decode cX8_addPiece 51 = .ok (.aload_n 0, 1) := by decide +kernel
theorem dX8_addPiece_52 : decode cX8_addPiece 52 = .ok (.getfield 31, 3) := by decide +kernel
theorem dX8_addPiece_55 : decode cX8_addPiece 55 = .ok (.iload 7, 2) := by decide +kernel
theorem dX8_addPiece_57 : decode cX8_addPiece 57 = .ok (.iload 4, 2) := by decide +kernel
theorem dX8_addPiece_59 : decode cX8_addPiece 59 = .ok (.iastore, 1) := by decide +kernel
theorem dX8_addPiece_60 : decode cX8_addPiece 60 = .ok (.aload_n 0, 1) := by decide +kernel
theorem dX8_addPiece_61 : decode cX8_addPiece 61 = .ok (.getfield 34, 3) := by decide +kernel
theorem dX8_addPiece_64 : decode cX8_addPiece 64 = .ok (.iload 7, 2) := by decide +kernel
theorem dX8_addPiece_66 : decode cX8_addPiece 66 = .ok (.iload 5, 2) := by decide +kernel
theorem dX8_addPiece_68 : decode cX8_addPiece 68 = .ok (.bastore, 1) := by decide +kernel
theorem dX8_addPiece_69 : decode cX8_addPiece 69 = .ok (.aload_n 0, 1) := by decide +kernel
theorem dX8_addPiece_70 : decode cX8_addPiece 70 = .ok (.getfield 22, 3) := by decide +kernel
theorem dX8_addPiece_73 : decode cX8_addPiece 73 = .ok (.iload_n 1, 1) := by decide +kernel
theorem dX8_addPiece_74 : decode cX8_addPiece 74 = .ok (.iload 6, 2) := by decide +kernel
theorem dX8_addPiece_76 : decode cX8_addPiece 76 = .ok (.iconst 1, 1) := by decide +kernel
theorem dX8_addPiece_77 : decode cX8_addPiece 77 = .ok (.iadd, 1) := by decide +kernel
theorem dX8_addPiece_78 : decode cX8_addPiece 78 = .ok (.iastore, 1) := by decide +kernel
theorem dX8_addPiece_79 : decode cX8_addPiece 79 = .ok (.iload 6, 2) := by decide +kernel
theorem dX8_addPiece_81 : decode cX8_addPiece 81 = .ok (.ireturn, 1) := by decide +kernel
def g_X8_addPiece : Nat → EA := (t_n 42 (t_n 22 (t_n 10 (t_n 5 (t_n 1 (t_l 0 (a_aload 1 0)) (t_n 2 (t_l 1 (a_iload 1 1)) (t_l 2 (a_inv true 119 2 (some 8))))) (t_n 8 (t_l 5 (a_if 16 (fun x => decide (x = 0)))) (t_n 9 (t_l 8 (a_aload 1 0)) (t_l 9 (a_iload 1 1))))) (t_n 17 (t_n 13 (t_l 10 (a_inv true 121 2 (some 8))) (t_n 16 (t_l 13 (a_if 18 (fun x => decide (x = 0)))) (t_l 16 (a_push 1 (.int (-1)))))) (t_n 18 (t_l 17 a_iret) (t_n 19 (t_l 18 (a_aload 1 0)) (t_l 19 (a_getf 8 3)))))) (t_n 30 (t_n 26 (t_n 23 (t_l 22 (a_iload 1 1)) (t_n 24 (t_l 23 (a_ild 0)) (t_l 24 (a_istore 8 2 6)))) (t_n 27 (t_l 26 (a_iload 1 1)) (t_n 29 (t_l 27 (a_push 2 (.int 8))) (t_l 29 (a_ii 1 (fun x y => x * y)))))) (t_n 35 (t_n 32 (t_l 30 (a_iload 2 6)) (t_n 33 (t_l 32 (a_ii 1 (fun x y => x + y))) (t_l 33 (a_istore 8 2 7)))) (t_n 39 (t_n 36 (t_l 35 (a_aload 1 0)) (t_l 36 (a_getf 8 4))) (t_n 41 (t_l 39 (a_iload 2 7)) (t_l 41 (a_iload 1 2))))))) (t_n 61 (t_n 51 (t_n 47 (t_n 43 (t_l 42 (a_ist 0)) (t_n 44 (t_l 43 (a_aload 1 0)) (t_l 44 (a_getf 8 5)))) (t_n 49 (t_l 47 (a_iload 2 7)) (t_n 50 (t_l 49 (a_iload 1 3)) (t_l 50 (a_ist 0))))) (t_n 57 (t_n 52 (t_l 51 (a_aload 1 0)) (t_n 55 (t_l 52 (a_getf 8 6)) (t_l 55 (a_iload 2 7)))) (t_n 59 (t_l 57 (a_iload 2 4)) (t_n 60 (t_l 59 (a_ist 0)) (t_l 60 (a_aload 1 0)))))) (t_n 73 (t_n 68 (t_n 64 (t_l 61 (a_getf 8 7)) (t_n 66 (t_l 64 (a_iload 2 7)) (t_l 66 (a_iload 2 5)))) (t_n 69 (t_l 68 (a_ist 1)) (t_n 70 (t_l 69 (a_aload 1 0)) (t_l 70 (a_getf 8 3))))) (t_n 77 (t_n 74 (t_l 73 (a_iload 1 1)) (t_n 76 (t_l 74 (a_iload 2 6)) (t_l 76 (a_push 1 (.int 1))))) (t_n 79 (t_n 78 (t_l 77 (a_ii 1 (fun x y => x + y))) (t_l 78 (a_ist 0))) (t_n 81 (t_l 79 (a_iload 2 6)) (t_l 81 a_iret)))))))
set_option maxRecDepth 100000 in
theorem k_X8_addPiece (sc : Nat × (Nat → Int32)) (d : Nat) : ∀ pc, ev_Ok cX8_addPiece 8 [] RX8 lw_g lw_n (lw_q sc) vwCl false (ev_CO mt lw_g lw_n (lw_q sc) vwCl d) pc (g_X8_addPiece pc) := (ok_t_n (ok_t_n (ok_t_n (ok_t_n (ok_t_n (ok_t_l (ok_aload_n dX8_addPiece_0 rfl)) (ok_t_n (ok_t_l (ok_iload_n dX8_addPiece_1 rfl)) (ok_t_l (ok_inv (run_V (y := 119) (n := 1) (ci := 8) dX8_addPiece_2 cz_119 gdG cc_119 ci_119 w_385 cm_119 cs_119 cd_119 cl_119 rfl rfl))))) (ok_t_n (ok_t_l (ok_if_eq dX8_addPiece_5 rfl)) (ok_t_n (ok_t_l (ok_aload_n dX8_addPiece_8 rfl)) (ok_t_l (ok_iload_n dX8_addPiece_9 rfl))))) (ok_t_n (ok_t_n (ok_t_l (ok_inv (run_V (y := 121) (n := 1) (ci := 8) dX8_addPiece_10 cz_121 gdG cc_121 ci_121 w_1455 cm_121 cs_121 cd_121 cl_121 rfl rfl))) (ok_t_n (ok_t_l (ok_if_eq dX8_addPiece_13 rfl)) (ok_t_l (ok_iconst dX8_addPiece_16 rfl)))) (ok_t_n (ok_t_l (ok_ireturn dX8_addPiece_17)) (ok_t_n (ok_t_l (ok_aload_n dX8_addPiece_18 rfl)) (ok_t_l (ok_getfield dX8_addPiece_19 (ci := 8) (kf := 3) rfl inGX8 (by decide) w_1005)))))) (ok_t_n (ok_t_n (ok_t_n (ok_t_l (ok_iload_n dX8_addPiece_22 rfl)) (ok_t_n (ok_t_l (ok_iaload dX8_addPiece_23)) (ok_t_l (ok_istore dX8_addPiece_24)))) (ok_t_n (ok_t_l (ok_iload_n dX8_addPiece_26 rfl)) (ok_t_n (ok_t_l (ok_bipush dX8_addPiece_27 rfl)) (ok_t_l (ok_imul dX8_addPiece_29))))) (ok_t_n (ok_t_n (ok_t_l (ok_iload dX8_addPiece_30)) (ok_t_n (ok_t_l (ok_iadd dX8_addPiece_32)) (ok_t_l (ok_istore dX8_addPiece_33)))) (ok_t_n (ok_t_n (ok_t_l (ok_aload_n dX8_addPiece_35 rfl)) (ok_t_l (ok_getfield dX8_addPiece_36 (ci := 8) (kf := 4) rfl inGX8 (by decide) w_1006))) (ok_t_n (ok_t_l (ok_iload dX8_addPiece_39)) (ok_t_l (ok_iload_n dX8_addPiece_41 rfl))))))) (ok_t_n (ok_t_n (ok_t_n (ok_t_n (ok_t_l (ok_iastore dX8_addPiece_42)) (ok_t_n (ok_t_l (ok_aload_n dX8_addPiece_43 rfl)) (ok_t_l (ok_getfield dX8_addPiece_44 (ci := 8) (kf := 5) rfl inGX8 (by decide) w_1007)))) (ok_t_n (ok_t_l (ok_iload dX8_addPiece_47)) (ok_t_n (ok_t_l (ok_iload_n dX8_addPiece_49 rfl)) (ok_t_l (ok_iastore dX8_addPiece_50))))) (ok_t_n (ok_t_n (ok_t_l (ok_aload_n dX8_addPiece_51 rfl)) (ok_t_n (ok_t_l (ok_getfield dX8_addPiece_52 (ci := 8) (kf := 6) rfl inGX8 (by decide) w_1008)) (ok_t_l (ok_iload dX8_addPiece_55)))) (ok_t_n (ok_t_l (ok_iload dX8_addPiece_57)) (ok_t_n (ok_t_l (ok_iastore dX8_addPiece_59)) (ok_t_l (ok_aload_n dX8_addPiece_60 rfl)))))) (ok_t_n (ok_t_n (ok_t_n (ok_t_l (ok_getfield dX8_addPiece_61 (ci := 8) (kf := 7) rfl inGX8 (by decide) w_1009)) (ok_t_n (ok_t_l (ok_iload dX8_addPiece_64)) (ok_t_l (ok_iload dX8_addPiece_66)))) (ok_t_n (ok_t_l (ok_zastore dX8_addPiece_68)) (ok_t_n (ok_t_l (ok_aload_n dX8_addPiece_69 rfl)) (ok_t_l (ok_getfield dX8_addPiece_70 (ci := 8) (kf := 3) rfl inGX8 (by decide) w_1005))))) (ok_t_n (ok_t_n (ok_t_l (ok_iload_n dX8_addPiece_73 rfl)) (ok_t_n (ok_t_l (ok_iload dX8_addPiece_74)) (ok_t_l (ok_iconst dX8_addPiece_76 rfl)))) (ok_t_n (ok_t_n (ok_t_l (ok_iadd dX8_addPiece_77)) (ok_t_l (ok_iastore dX8_addPiece_78))) (ok_t_n (ok_t_l (ok_iload dX8_addPiece_79)) (ok_t_l (ok_ireturn dX8_addPiece_81))))))))
theorem dX8_objectOf_0 : decode cX8_objectOf 0 = .ok (.aload_n 0, 1) := by decide +kernel
theorem dX8_objectOf_1 : decode cX8_objectOf 1 = .ok (.iload_n 1, 1) := by decide +kernel
theorem dX8_objectOf_2 : decode cX8_objectOf 2 = .ok (.invokevirtual 49, 3) := by decide +kernel
theorem dX8_objectOf_5 : decode cX8_objectOf 5 = .ok (.ifCond .eq 12, 3) := by decide +kernel
theorem dX8_objectOf_8 : decode cX8_objectOf 8 = .ok (.aload_n 0, 1) := by decide +kernel
theorem dX8_objectOf_9 : decode cX8_objectOf 9 = .ok (.getfield 9, 3) := by decide +kernel
theorem dX8_objectOf_12 : decode cX8_objectOf 12 = .ok (.iload_n 1, 1) := by decide +kernel
theorem dX8_objectOf_13 : decode cX8_objectOf 13 = .ok (.iaload, 1) := by decide +kernel
theorem dX8_objectOf_14 : decode cX8_objectOf 14 = .ok (.goto 4, 3) := by decide +kernel
theorem dX8_objectOf_17 : decode cX8_objectOf 17 = .ok (.iconst (-1), 1) := by decide +kernel
theorem dX8_objectOf_18 : decode cX8_objectOf 18 = .ok (.ireturn, 1) := by decide +kernel
def g_X8_objectOf : Nat → EA := (t_n 9 (t_n 2 (t_n 1 (t_l 0 (a_aload 1 0)) (t_l 1 (a_iload 1 1))) (t_n 5 (t_l 2 (a_inv true 119 2 (some 8))) (t_n 8 (t_l 5 (a_if 17 (fun x => decide (x = 0)))) (t_l 8 (a_aload 1 0))))) (t_n 14 (t_n 12 (t_l 9 (a_getf 8 0)) (t_n 13 (t_l 12 (a_iload 1 1)) (t_l 13 (a_ild 0)))) (t_n 17 (t_l 14 (a_goto 18)) (t_n 18 (t_l 17 (a_push 1 (.int (-1)))) (t_l 18 a_iret)))))
set_option maxRecDepth 100000 in
theorem k_X8_objectOf (sc : Nat × (Nat → Int32)) (d : Nat) : ∀ pc, ev_Ok cX8_objectOf 2 [] RX8 lw_g lw_n (lw_q sc) vwCl false (ev_CO mt lw_g lw_n (lw_q sc) vwCl d) pc (g_X8_objectOf pc) := (ok_t_n (ok_t_n (ok_t_n (ok_t_l (ok_aload_n dX8_objectOf_0 rfl)) (ok_t_l (ok_iload_n dX8_objectOf_1 rfl))) (ok_t_n (ok_t_l (ok_inv (run_V (y := 119) (n := 1) (ci := 8) dX8_objectOf_2 cz_119 gdG cc_119 ci_119 w_385 cm_119 cs_119 cd_119 cl_119 rfl rfl))) (ok_t_n (ok_t_l (ok_if_eq dX8_objectOf_5 rfl)) (ok_t_l (ok_aload_n dX8_objectOf_8 rfl))))) (ok_t_n (ok_t_n (ok_t_l (ok_getfield dX8_objectOf_9 (ci := 8) (kf := 0) rfl inGX8 (by decide) w_1002)) (ok_t_n (ok_t_l (ok_iload_n dX8_objectOf_12 rfl)) (ok_t_l (ok_iaload dX8_objectOf_13)))) (ok_t_n (ok_t_l (ok_goto dX8_objectOf_14 rfl)) (ok_t_n (ok_t_l (ok_iconst dX8_objectOf_17 rfl)) (ok_t_l (ok_ireturn dX8_objectOf_18))))))
theorem dX8_align_0 : decode cX8_align 0 = .ok (.aload_n 0, 1) := by decide +kernel
theorem dX8_align_1 : decode cX8_align 1 = .ok (.iload_n 1, 1) := by decide +kernel
theorem dX8_align_2 : decode cX8_align 2 = .ok (.invokevirtual 49, 3) := by decide +kernel
theorem dX8_align_5 : decode cX8_align 5 = .ok (.ifCond .eq 12, 3) := by decide +kernel
theorem dX8_align_8 : decode cX8_align 8 = .ok (.aload_n 0, 1) := by decide +kernel
theorem dX8_align_9 : decode cX8_align 9 = .ok (.getfield 15, 3) := by decide +kernel
theorem dX8_align_12 : decode cX8_align 12 = .ok (.iload_n 1, 1) := by decide +kernel
theorem dX8_align_13 : decode cX8_align 13 = .ok (.iaload, 1) := by decide +kernel
theorem dX8_align_14 : decode cX8_align 14 = .ok (.goto 4, 3) := by decide +kernel
theorem dX8_align_17 : decode cX8_align 17 = .ok (.iconst 1, 1) := by decide +kernel
theorem dX8_align_18 : decode cX8_align 18 = .ok (.ireturn, 1) := by decide +kernel
def g_X8_align : Nat → EA := (t_n 9 (t_n 2 (t_n 1 (t_l 0 (a_aload 1 0)) (t_l 1 (a_iload 1 1))) (t_n 5 (t_l 2 (a_inv true 119 2 (some 8))) (t_n 8 (t_l 5 (a_if 17 (fun x => decide (x = 0)))) (t_l 8 (a_aload 1 0))))) (t_n 14 (t_n 12 (t_l 9 (a_getf 8 1)) (t_n 13 (t_l 12 (a_iload 1 1)) (t_l 13 (a_ild 0)))) (t_n 17 (t_l 14 (a_goto 18)) (t_n 18 (t_l 17 (a_push 1 (.int 1))) (t_l 18 a_iret)))))
set_option maxRecDepth 100000 in
theorem k_X8_align (sc : Nat × (Nat → Int32)) (d : Nat) : ∀ pc, ev_Ok cX8_align 2 [] RX8 lw_g lw_n (lw_q sc) vwCl false (ev_CO mt lw_g lw_n (lw_q sc) vwCl d) pc (g_X8_align pc) := (ok_t_n (ok_t_n (ok_t_n (ok_t_l (ok_aload_n dX8_align_0 rfl)) (ok_t_l (ok_iload_n dX8_align_1 rfl))) (ok_t_n (ok_t_l (ok_inv (run_V (y := 119) (n := 1) (ci := 8) dX8_align_2 cz_119 gdG cc_119 ci_119 w_385 cm_119 cs_119 cd_119 cl_119 rfl rfl))) (ok_t_n (ok_t_l (ok_if_eq dX8_align_5 rfl)) (ok_t_l (ok_aload_n dX8_align_8 rfl))))) (ok_t_n (ok_t_n (ok_t_l (ok_getfield dX8_align_9 (ci := 8) (kf := 1) rfl inGX8 (by decide) w_1003)) (ok_t_n (ok_t_l (ok_iload_n dX8_align_12 rfl)) (ok_t_l (ok_iaload dX8_align_13)))) (ok_t_n (ok_t_l (ok_goto dX8_align_14 rfl)) (ok_t_n (ok_t_l (ok_iconst dX8_align_17 rfl)) (ok_t_l (ok_ireturn dX8_align_18))))))
theorem dX8_isKept_0 : decode cX8_isKept 0 = .ok (.aload_n 0, 1) := by decide +kernel
theorem dX8_isKept_1 : decode cX8_isKept 1 = .ok (.iload_n 1, 1) := by decide +kernel
theorem dX8_isKept_2 : decode cX8_isKept 2 = .ok (.invokevirtual 49, 3) := by decide +kernel
theorem dX8_isKept_5 : decode cX8_isKept 5 = .ok (.ifCond .eq 16, 3) := by decide +kernel
theorem dX8_isKept_8 : decode cX8_isKept 8 = .ok (.aload_n 0, 1) := by decide +kernel
theorem dX8_isKept_9 : decode cX8_isKept 9 = .ok (.getfield 18, 3) := by decide +kernel
theorem dX8_isKept_12 : decode cX8_isKept 12 = .ok (.iload_n 1, 1) := by decide +kernel
theorem dX8_isKept_13 : decode cX8_isKept 13 = .ok (.baload, 1) := by decide +kernel
theorem dX8_isKept_14 : decode cX8_isKept 14 = .ok (.ifCond .eq 7, 3) := by decide +kernel
theorem dX8_isKept_17 : decode cX8_isKept 17 = .ok (.iconst 1, 1) := by decide +kernel
theorem dX8_isKept_18 : decode cX8_isKept 18 = .ok (.goto 4, 3) := by decide +kernel
theorem dX8_isKept_21 : decode cX8_isKept 21 = .ok (.iconst 0, 1) := by decide +kernel
theorem dX8_isKept_22 : decode cX8_isKept 22 = .ok (.ireturn, 1) := by decide +kernel
def g_X8_isKept : Nat → EA := (t_n 12 (t_n 5 (t_n 1 (t_l 0 (a_aload 1 0)) (t_n 2 (t_l 1 (a_iload 1 1)) (t_l 2 (a_inv true 119 2 (some 8))))) (t_n 8 (t_l 5 (a_if 21 (fun x => decide (x = 0)))) (t_n 9 (t_l 8 (a_aload 1 0)) (t_l 9 (a_getf 8 2))))) (t_n 17 (t_n 13 (t_l 12 (a_iload 1 1)) (t_n 14 (t_l 13 (a_ild 1)) (t_l 14 (a_if 21 (fun x => decide (x = 0)))))) (t_n 21 (t_n 18 (t_l 17 (a_push 1 (.int 1))) (t_l 18 (a_goto 22))) (t_n 22 (t_l 21 (a_push 1 (.int 0))) (t_l 22 a_iret)))))
set_option maxRecDepth 100000 in
theorem k_X8_isKept (sc : Nat × (Nat → Int32)) (d : Nat) : ∀ pc, ev_Ok cX8_isKept 2 [] RX8 lw_g lw_n (lw_q sc) vwCl false (ev_CO mt lw_g lw_n (lw_q sc) vwCl d) pc (g_X8_isKept pc) := (ok_t_n (ok_t_n (ok_t_n (ok_t_l (ok_aload_n dX8_isKept_0 rfl)) (ok_t_n (ok_t_l (ok_iload_n dX8_isKept_1 rfl)) (ok_t_l (ok_inv (run_V (y := 119) (n := 1) (ci := 8) dX8_isKept_2 cz_119 gdG cc_119 ci_119 w_385 cm_119 cs_119 cd_119 cl_119 rfl rfl))))) (ok_t_n (ok_t_l (ok_if_eq dX8_isKept_5 rfl)) (ok_t_n (ok_t_l (ok_aload_n dX8_isKept_8 rfl)) (ok_t_l (ok_getfield dX8_isKept_9 (ci := 8) (kf := 2) rfl inGX8 (by decide) w_1004))))) (ok_t_n (ok_t_n (ok_t_l (ok_iload_n dX8_isKept_12 rfl)) (ok_t_n (ok_t_l (ok_zaload dX8_isKept_13)) (ok_t_l (ok_if_eq dX8_isKept_14 rfl)))) (ok_t_n (ok_t_n (ok_t_l (ok_iconst dX8_isKept_17 rfl)) (ok_t_l (ok_goto dX8_isKept_18 rfl))) (ok_t_n (ok_t_l (ok_iconst dX8_isKept_21 rfl)) (ok_t_l (ok_ireturn dX8_isKept_22))))))
theorem dX8_pieces_0 : decode cX8_pieces 0 = .ok (.aload_n 0, 1) := by decide +kernel
theorem dX8_pieces_1 : decode cX8_pieces 1 = .ok (.iload_n 1, 1) := by decide +kernel
theorem dX8_pieces_2 : decode cX8_pieces 2 = .ok (.invokevirtual 49, 3) := by decide +kernel
theorem dX8_pieces_5 : decode cX8_pieces 5 = .ok (.ifCond .eq 12, 3) := by decide +kernel
theorem dX8_pieces_8 : decode cX8_pieces 8 = .ok (.aload_n 0, 1) := by decide +kernel
theorem dX8_pieces_9 : decode cX8_pieces 9 = .ok (.getfield 22, 3) := by decide +kernel
theorem dX8_pieces_12 : decode cX8_pieces 12 = .ok (.iload_n 1, 1) := by decide +kernel
theorem dX8_pieces_13 : decode cX8_pieces 13 = .ok (.iaload, 1) := by decide +kernel
theorem dX8_pieces_14 : decode cX8_pieces 14 = .ok (.goto 4, 3) := by decide +kernel
theorem dX8_pieces_17 : decode cX8_pieces 17 = .ok (.iconst 0, 1) := by decide +kernel
theorem dX8_pieces_18 : decode cX8_pieces 18 = .ok (.ireturn, 1) := by decide +kernel
def g_X8_pieces : Nat → EA := (t_n 9 (t_n 2 (t_n 1 (t_l 0 (a_aload 1 0)) (t_l 1 (a_iload 1 1))) (t_n 5 (t_l 2 (a_inv true 119 2 (some 8))) (t_n 8 (t_l 5 (a_if 17 (fun x => decide (x = 0)))) (t_l 8 (a_aload 1 0))))) (t_n 14 (t_n 12 (t_l 9 (a_getf 8 3)) (t_n 13 (t_l 12 (a_iload 1 1)) (t_l 13 (a_ild 0)))) (t_n 17 (t_l 14 (a_goto 18)) (t_n 18 (t_l 17 (a_push 1 (.int 0))) (t_l 18 a_iret)))))
set_option maxRecDepth 100000 in
theorem k_X8_pieces (sc : Nat × (Nat → Int32)) (d : Nat) : ∀ pc, ev_Ok cX8_pieces 2 [] RX8 lw_g lw_n (lw_q sc) vwCl false (ev_CO mt lw_g lw_n (lw_q sc) vwCl d) pc (g_X8_pieces pc) := (ok_t_n (ok_t_n (ok_t_n (ok_t_l (ok_aload_n dX8_pieces_0 rfl)) (ok_t_l (ok_iload_n dX8_pieces_1 rfl))) (ok_t_n (ok_t_l (ok_inv (run_V (y := 119) (n := 1) (ci := 8) dX8_pieces_2 cz_119 gdG cc_119 ci_119 w_385 cm_119 cs_119 cd_119 cl_119 rfl rfl))) (ok_t_n (ok_t_l (ok_if_eq dX8_pieces_5 rfl)) (ok_t_l (ok_aload_n dX8_pieces_8 rfl))))) (ok_t_n (ok_t_n (ok_t_l (ok_getfield dX8_pieces_9 (ci := 8) (kf := 3) rfl inGX8 (by decide) w_1005)) (ok_t_n (ok_t_l (ok_iload_n dX8_pieces_12 rfl)) (ok_t_l (ok_iaload dX8_pieces_13)))) (ok_t_n (ok_t_l (ok_goto dX8_pieces_14 rfl)) (ok_t_n (ok_t_l (ok_iconst dX8_pieces_17 rfl)) (ok_t_l (ok_ireturn dX8_pieces_18))))))
theorem dX8_countOf_0 : decode cX8_countOf 0 = .ok (.iconst 0, 1) := by decide +kernel
theorem dX8_countOf_1 : decode cX8_countOf 1 = .ok (.istore_n 2, 1) := by decide +kernel
theorem dX8_countOf_2 : decode cX8_countOf 2 = .ok (.iconst 0, 1) := by decide +kernel
theorem dX8_countOf_3 : decode cX8_countOf 3 = .ok (.istore_n 3, 1) := by decide +kernel
theorem dX8_countOf_4 : decode cX8_countOf 4 = .ok (.iload_n 3, 1) := by decide +kernel
theorem dX8_countOf_5 : decode cX8_countOf 5 = .ok (.aload_n 0, 1) := by decide +kernel
theorem dX8_countOf_6 : decode cX8_countOf 6 = .ok (.getfield 37, 3) := by decide +kernel
theorem dX8_countOf_9 : decode cX8_countOf 9 = .ok (.if_icmp .ge 28, 3) := by decide +kernel
theorem dX8_countOf_12 : decode cX8_countOf 12 = .ok (.iload_n 3, 1) := by decide +kernel
theorem dX8_countOf_13 : decode cX8_countOf 13 = .ok (.bipush 24, 2) := by decide +kernel
theorem dX8_countOf_15 : decode cX8_countOf 15 = .ok (.if_icmp .ge 22, 3) := by decide +kernel
theorem dX8_countOf_18 : decode cX8_countOf 18 = .ok (.aload_n 0, 1) := by decide +kernel
theorem dX8_countOf_19 : decode cX8_countOf 19 = .ok (.getfield 9, 3) := by decide +kernel
theorem dX8_countOf_22 : decode cX8_countOf 22 = .ok (.iload_n 3, 1) := by decide +kernel
theorem dX8_countOf_23 : decode cX8_countOf 23 = .ok (.iaload, 1) := by decide +kernel
theorem dX8_countOf_24 : decode cX8_countOf 24 = .ok (.iload_n 1, 1) := by decide +kernel
theorem dX8_countOf_25 : decode cX8_countOf 25 = .ok (.if_icmp .ne 6, 3) := by decide +kernel
theorem dX8_countOf_28 : decode cX8_countOf 28 = .ok (.iinc 2 1, 3) := by decide +kernel
theorem dX8_countOf_31 : decode cX8_countOf 31 = .ok (.iinc 3 1, 3) := by decide +kernel
theorem dX8_countOf_34 : decode cX8_countOf 34 = .ok (.goto (-30), 3) := by decide +kernel
theorem dX8_countOf_37 : decode cX8_countOf 37 = .ok (.iload_n 2, 1) := by decide +kernel
theorem dX8_countOf_38 : decode cX8_countOf 38 = .ok (.ireturn, 1) := by decide +kernel
def g_X8_countOf : Nat → EA := (t_n 18 (t_n 5 (t_n 2 (t_n 1 (t_l 0 (a_push 1 (.int 0))) (t_l 1 (a_istore 4 1 2))) (t_n 3 (t_l 2 (a_push 1 (.int 0))) (t_n 4 (t_l 3 (a_istore 4 1 3)) (t_l 4 (a_iload 1 3))))) (t_n 12 (t_n 6 (t_l 5 (a_aload 1 0)) (t_n 9 (t_l 6 (a_getf 8 8)) (t_l 9 (a_ic 37 (fun x y => decide (y ≤ x)))))) (t_n 13 (t_l 12 (a_iload 1 3)) (t_n 15 (t_l 13 (a_push 2 (.int 24))) (t_l 15 (a_ic 37 (fun x y => decide (y ≤ x)))))))) (t_n 25 (t_n 22 (t_n 19 (t_l 18 (a_aload 1 0)) (t_l 19 (a_getf 8 0))) (t_n 23 (t_l 22 (a_iload 1 3)) (t_n 24 (t_l 23 (a_ild 0)) (t_l 24 (a_iload 1 1))))) (t_n 34 (t_n 28 (t_l 25 (a_ic 31 (fun x y => !decide (x = y)))) (t_n 31 (t_l 28 (a_iinc 4 2 1)) (t_l 31 (a_iinc 4 3 1)))) (t_n 37 (t_l 34 (a_goto 4)) (t_n 38 (t_l 37 (a_iload 1 2)) (t_l 38 a_iret))))))
set_option maxRecDepth 100000 in
theorem k_X8_countOf (sc : Nat × (Nat → Int32)) (d : Nat) : ∀ pc, ev_Ok cX8_countOf 4 [] RX8 lw_g lw_n (lw_q sc) vwCl false (ev_CO mt lw_g lw_n (lw_q sc) vwCl d) pc (g_X8_countOf pc) := (ok_t_n (ok_t_n (ok_t_n (ok_t_n (ok_t_l (ok_iconst dX8_countOf_0 rfl)) (ok_t_l (ok_istore_n dX8_countOf_1 rfl))) (ok_t_n (ok_t_l (ok_iconst dX8_countOf_2 rfl)) (ok_t_n (ok_t_l (ok_istore_n dX8_countOf_3 rfl)) (ok_t_l (ok_iload_n dX8_countOf_4 rfl))))) (ok_t_n (ok_t_n (ok_t_l (ok_aload_n dX8_countOf_5 rfl)) (ok_t_n (ok_t_l (ok_getfield dX8_countOf_6 (ci := 8) (kf := 8) rfl inGX8 (by decide) w_1010)) (ok_t_l (ok_icmp_ge dX8_countOf_9 rfl)))) (ok_t_n (ok_t_l (ok_iload_n dX8_countOf_12 rfl)) (ok_t_n (ok_t_l (ok_bipush dX8_countOf_13 rfl)) (ok_t_l (ok_icmp_ge dX8_countOf_15 rfl)))))) (ok_t_n (ok_t_n (ok_t_n (ok_t_l (ok_aload_n dX8_countOf_18 rfl)) (ok_t_l (ok_getfield dX8_countOf_19 (ci := 8) (kf := 0) rfl inGX8 (by decide) w_1002))) (ok_t_n (ok_t_l (ok_iload_n dX8_countOf_22 rfl)) (ok_t_n (ok_t_l (ok_iaload dX8_countOf_23)) (ok_t_l (ok_iload_n dX8_countOf_24 rfl))))) (ok_t_n (ok_t_n (ok_t_l (ok_icmp_ne dX8_countOf_25 rfl)) (ok_t_n (ok_t_l (ok_iinc dX8_countOf_28 rfl)) (ok_t_l (ok_iinc dX8_countOf_31 rfl)))) (ok_t_n (ok_t_l (ok_goto dX8_countOf_34 rfl)) (ok_t_n (ok_t_l (ok_iload_n dX8_countOf_37 rfl)) (ok_t_l (ok_ireturn dX8_countOf_38)))))))
theorem dX8_hasPiece_0 : decode cX8_hasPiece 0 = .ok (.iload_n 1, 1) := by decide +kernel
theorem dX8_hasPiece_1 : decode cX8_hasPiece 1 = .ok (.ifCond .lt 33, 3) := by decide +kernel
theorem dX8_hasPiece_4 : decode cX8_hasPiece 4 = .ok (.iload_n 1, 1) := by decide +kernel
theorem dX8_hasPiece_5 : decode cX8_hasPiece 5 = .ok (.bipush 24, 2) := by decide +kernel
theorem dX8_hasPiece_7 : decode cX8_hasPiece 7 = .ok (.if_icmp .ge 27, 3) := by decide +kernel
theorem dX8_hasPiece_10 : decode cX8_hasPiece 10 = .ok (.iload_n 2, 1) := by decide +kernel
theorem dX8_hasPiece_11 : decode cX8_hasPiece 11 = .ok (.ifCond .lt 23, 3) := by decide +kernel
theorem dX8_hasPiece_14 : decode cX8_hasPiece 14 = .ok (.iload_n 2, 1) := by decide +kernel
theorem dX8_hasPiece_15 : decode cX8_hasPiece 15 = .ok (.bipush 8, 2) := by decide +kernel
theorem dX8_hasPiece_17 : decode cX8_hasPiece 17 = .ok (.if_icmp .ge 17, 3) := by decide +kernel
theorem dX8_hasPiece_20 : decode cX8_hasPiece 20 = .ok (.iload_n 2, 1) := by decide +kernel
theorem dX8_hasPiece_21 : decode cX8_hasPiece 21 = .ok (.aload_n 0, 1) := by decide +kernel
theorem dX8_hasPiece_22 : decode cX8_hasPiece 22 = .ok (.getfield 22, 3) := by decide +kernel
theorem dX8_hasPiece_25 : decode cX8_hasPiece 25 = .ok (.iload_n 1, 1) := by decide +kernel
theorem dX8_hasPiece_26 : decode cX8_hasPiece 26 = .ok (.iaload, 1) := by decide +kernel
theorem dX8_hasPiece_27 : decode cX8_hasPiece 27 = .ok (.if_icmp .ge 7, 3) := by decide +kernel
theorem dX8_hasPiece_30 : decode cX8_hasPiece 30 = .ok (.iconst 1, 1) := by decide +kernel
theorem dX8_hasPiece_31 : decode cX8_hasPiece 31 = .ok (.goto 4, 3) := by decide +kernel
theorem dX8_hasPiece_34 : decode cX8_hasPiece 34 = .ok (.iconst 0, 1) := by decide +kernel
theorem dX8_hasPiece_35 : decode cX8_hasPiece 35 = .ok (.ireturn, 1) := by decide +kernel
def g_X8_hasPiece : Nat → EA := (t_n 20 (t_n 10 (t_n 4 (t_n 1 (t_l 0 (a_iload 1 1)) (t_l 1 (a_if 34 (fun x => decide (x < 0))))) (t_n 5 (t_l 4 (a_iload 1 1)) (t_n 7 (t_l 5 (a_push 2 (.int 24))) (t_l 7 (a_ic 34 (fun x y => decide (y ≤ x))))))) (t_n 14 (t_n 11 (t_l 10 (a_iload 1 2)) (t_l 11 (a_if 34 (fun x => decide (x < 0))))) (t_n 15 (t_l 14 (a_iload 1 2)) (t_n 17 (t_l 15 (a_push 2 (.int 8))) (t_l 17 (a_ic 34 (fun x y => decide (y ≤ x)))))))) (t_n 27 (t_n 22 (t_n 21 (t_l 20 (a_iload 1 2)) (t_l 21 (a_aload 1 0))) (t_n 25 (t_l 22 (a_getf 8 3)) (t_n 26 (t_l 25 (a_iload 1 1)) (t_l 26 (a_ild 0))))) (t_n 31 (t_n 30 (t_l 27 (a_ic 34 (fun x y => decide (y ≤ x)))) (t_l 30 (a_push 1 (.int 1)))) (t_n 34 (t_l 31 (a_goto 35)) (t_n 35 (t_l 34 (a_push 1 (.int 0))) (t_l 35 a_iret))))))
set_option maxRecDepth 100000 in
theorem k_X8_hasPiece (sc : Nat × (Nat → Int32)) (d : Nat) : ∀ pc, ev_Ok cX8_hasPiece 3 [] RX8 lw_g lw_n (lw_q sc) vwCl false (ev_CO mt lw_g lw_n (lw_q sc) vwCl d) pc (g_X8_hasPiece pc) := (ok_t_n (ok_t_n (ok_t_n (ok_t_n (ok_t_l (ok_iload_n dX8_hasPiece_0 rfl)) (ok_t_l (ok_if_lt dX8_hasPiece_1 rfl))) (ok_t_n (ok_t_l (ok_iload_n dX8_hasPiece_4 rfl)) (ok_t_n (ok_t_l (ok_bipush dX8_hasPiece_5 rfl)) (ok_t_l (ok_icmp_ge dX8_hasPiece_7 rfl))))) (ok_t_n (ok_t_n (ok_t_l (ok_iload_n dX8_hasPiece_10 rfl)) (ok_t_l (ok_if_lt dX8_hasPiece_11 rfl))) (ok_t_n (ok_t_l (ok_iload_n dX8_hasPiece_14 rfl)) (ok_t_n (ok_t_l (ok_bipush dX8_hasPiece_15 rfl)) (ok_t_l (ok_icmp_ge dX8_hasPiece_17 rfl)))))) (ok_t_n (ok_t_n (ok_t_n (ok_t_l (ok_iload_n dX8_hasPiece_20 rfl)) (ok_t_l (ok_aload_n dX8_hasPiece_21 rfl))) (ok_t_n (ok_t_l (ok_getfield dX8_hasPiece_22 (ci := 8) (kf := 3) rfl inGX8 (by decide) w_1005)) (ok_t_n (ok_t_l (ok_iload_n dX8_hasPiece_25 rfl)) (ok_t_l (ok_iaload dX8_hasPiece_26))))) (ok_t_n (ok_t_n (ok_t_l (ok_icmp_ge dX8_hasPiece_27 rfl)) (ok_t_l (ok_iconst dX8_hasPiece_30 rfl))) (ok_t_n (ok_t_l (ok_goto dX8_hasPiece_31 rfl)) (ok_t_n (ok_t_l (ok_iconst dX8_hasPiece_34 rfl)) (ok_t_l (ok_ireturn dX8_hasPiece_35)))))))
theorem dX8_kind_0 : decode cX8_kind 0 = .ok (.aload_n 0, 1) := by decide +kernel
theorem dX8_kind_1 : decode cX8_kind 1 = .ok (.iload_n 1, 1) := by decide +kernel
theorem dX8_kind_2 : decode cX8_kind 2 = .ok (.iload_n 2, 1) := by decide +kernel
theorem dX8_kind_3 : decode cX8_kind 3 = .ok (.invokevirtual 56, 3) := by decide +kernel
theorem dX8_kind_6 : decode cX8_kind 6 = .ok (.ifCond .eq 17, 3) := by decide +kernel
theorem dX8_kind_9 : decode cX8_kind 9 = .ok (.aload_n 0, 1) := by decide +kernel
theorem dX8_kind_10 : decode cX8_kind 10 = .ok (.getfield 25, 3) := by decide +kernel
theorem dX8_kind_13 : decode cX8_kind 13 = .ok (.iload_n 1, 1) := by decide +kernel
theorem dX8_kind_14 : decode cX8_kind 14 = .ok (.bipush 8, 2) := by decide +kernel
theorem dX8_kind_16 : decode cX8_kind 16 = .ok (.imul, 1) := by decide +kernel
theorem dX8_kind_17 : decode cX8_kind 17 = .ok (.iload_n 2, 1) := by decide +kernel
theorem dX8_kind_18 : decode cX8_kind 18 = .ok (.iadd, 1) := by decide +kernel
theorem dX8_kind_19 : decode cX8_kind 19 = .ok (.iaload, 1) := by decide +kernel
theorem dX8_kind_20 : decode cX8_kind 20 = .ok (.goto 4, 3) := by decide +kernel
theorem dX8_kind_23 : decode cX8_kind 23 = .ok (.iconst 0, 1) := by decide +kernel
theorem dX8_kind_24 : decode cX8_kind 24 = .ok (.ireturn, 1) := by decide +kernel
def g_X8_kind : Nat → EA := (t_n 14 (t_n 6 (t_n 2 (t_n 1 (t_l 0 (a_aload 1 0)) (t_l 1 (a_iload 1 1))) (t_n 3 (t_l 2 (a_iload 1 2)) (t_l 3 (a_inv true 128 3 (some 8))))) (t_n 10 (t_n 9 (t_l 6 (a_if 23 (fun x => decide (x = 0)))) (t_l 9 (a_aload 1 0))) (t_n 13 (t_l 10 (a_getf 8 4)) (t_l 13 (a_iload 1 1))))) (t_n 19 (t_n 17 (t_n 16 (t_l 14 (a_push 2 (.int 8))) (t_l 16 (a_ii 1 (fun x y => x * y)))) (t_n 18 (t_l 17 (a_iload 1 2)) (t_l 18 (a_ii 1 (fun x y => x + y))))) (t_n 23 (t_n 20 (t_l 19 (a_ild 0)) (t_l 20 (a_goto 24))) (t_n 24 (t_l 23 (a_push 1 (.int 0))) (t_l 24 a_iret)))))
set_option maxRecDepth 100000 in
theorem k_X8_kind (sc : Nat × (Nat → Int32)) (d : Nat) : ∀ pc, ev_Ok cX8_kind 3 [] RX8 lw_g lw_n (lw_q sc) vwCl false (ev_CO mt lw_g lw_n (lw_q sc) vwCl d) pc (g_X8_kind pc) := (ok_t_n (ok_t_n (ok_t_n (ok_t_n (ok_t_l (ok_aload_n dX8_kind_0 rfl)) (ok_t_l (ok_iload_n dX8_kind_1 rfl))) (ok_t_n (ok_t_l (ok_iload_n dX8_kind_2 rfl)) (ok_t_l (ok_inv (run_V (y := 128) (n := 2) (ci := 8) dX8_kind_3 cz_128 gdG cc_128 ci_128 w_435 cm_128 cs_128 cd_128 cl_128 rfl rfl))))) (ok_t_n (ok_t_n (ok_t_l (ok_if_eq dX8_kind_6 rfl)) (ok_t_l (ok_aload_n dX8_kind_9 rfl))) (ok_t_n (ok_t_l (ok_getfield dX8_kind_10 (ci := 8) (kf := 4) rfl inGX8 (by decide) w_1006)) (ok_t_l (ok_iload_n dX8_kind_13 rfl))))) (ok_t_n (ok_t_n (ok_t_n (ok_t_l (ok_bipush dX8_kind_14 rfl)) (ok_t_l (ok_imul dX8_kind_16))) (ok_t_n (ok_t_l (ok_iload_n dX8_kind_17 rfl)) (ok_t_l (ok_iadd dX8_kind_18)))) (ok_t_n (ok_t_n (ok_t_l (ok_iaload dX8_kind_19)) (ok_t_l (ok_goto dX8_kind_20 rfl))) (ok_t_n (ok_t_l (ok_iconst dX8_kind_23 rfl)) (ok_t_l (ok_ireturn dX8_kind_24))))))
theorem dX8_isReference_0 : decode cX8_isReference 0 = .ok (.aload_n 0, 1) := by decide +kernel
theorem dX8_isReference_1 : decode cX8_isReference 1 = .ok (.iload_n 1, 1) := by decide +kernel
theorem dX8_isReference_2 : decode cX8_isReference 2 = .ok (.iload_n 2, 1) := by decide +kernel
theorem dX8_isReference_3 : decode cX8_isReference 3 = .ok (.invokevirtual 60, 3) := by decide +kernel
theorem dX8_isReference_6 : decode cX8_isReference 6 = .ok (.ifCond .eq 7, 3) := by decide +kernel
theorem dX8_isReference_9 : decode cX8_isReference 9 = .ok (.iconst 1, 1) := by decide +kernel
theorem dX8_isReference_10 : decode cX8_isReference 10 = .ok (.goto 4, 3) := by decide +kernel
theorem dX8_isReference_13 : decode cX8_isReference 13 = .ok (.iconst 0, 1) := by decide +kernel
theorem dX8_isReference_14 : decode cX8_isReference 14 = .ok (.ireturn, 1) := by decide +kernel
def g_X8_isReference : Nat → EA := (t_n 6 (t_n 2 (t_n 1 (t_l 0 (a_aload 1 0)) (t_l 1 (a_iload 1 1))) (t_n 3 (t_l 2 (a_iload 1 2)) (t_l 3 (a_inv true 129 3 (some 8))))) (t_n 10 (t_n 9 (t_l 6 (a_if 13 (fun x => decide (x = 0)))) (t_l 9 (a_push 1 (.int 1)))) (t_n 13 (t_l 10 (a_goto 14)) (t_n 14 (t_l 13 (a_push 1 (.int 0))) (t_l 14 a_iret)))))
set_option maxRecDepth 100000 in
theorem k_X8_isReference (sc : Nat × (Nat → Int32)) (d : Nat) : ∀ pc, ev_Ok cX8_isReference 3 [] RX8 lw_g lw_n (lw_q sc) vwCl false (ev_CO mt lw_g lw_n (lw_q sc) vwCl d) pc (g_X8_isReference pc) := (ok_t_n (ok_t_n (ok_t_n (ok_t_l (ok_aload_n dX8_isReference_0 rfl)) (ok_t_l (ok_iload_n dX8_isReference_1 rfl))) (ok_t_n (ok_t_l (ok_iload_n dX8_isReference_2 rfl)) (ok_t_l (ok_inv (run_V (y := 129) (n := 2) (ci := 8) dX8_isReference_3 cz_129 gdG cc_129 ci_129 w_444 cm_129 cs_129 cd_129 cl_129 rfl rfl))))) (ok_t_n (ok_t_n (ok_t_l (ok_if_eq dX8_isReference_6 rfl)) (ok_t_l (ok_iconst dX8_isReference_9 rfl))) (ok_t_n (ok_t_l (ok_goto dX8_isReference_10 rfl)) (ok_t_n (ok_t_l (ok_iconst dX8_isReference_13 rfl)) (ok_t_l (ok_ireturn dX8_isReference_14))))))
theorem dX8_words_0 : decode cX8_words 0 = .ok (.aload_n 0, 1) := by decide +kernel
theorem dX8_words_1 : decode cX8_words 1 = .ok (.iload_n 1, 1) := by decide +kernel
theorem dX8_words_2 : decode cX8_words 2 = .ok (.iload_n 2, 1) := by decide +kernel
theorem dX8_words_3 : decode cX8_words 3 = .ok (.invokevirtual 56, 3) := by decide +kernel
theorem dX8_words_6 : decode cX8_words 6 = .ok (.ifCond .ne 5, 3) := by decide +kernel
theorem dX8_words_9 : decode cX8_words 9 = .ok (.iconst 0, 1) := by decide +kernel
theorem dX8_words_10 : decode cX8_words 10 = .ok (.ireturn, 1) := by decide +kernel
theorem dX8_words_11 : decode cX8_words 11 = .ok (.iload_n 1, 1) := by decide +kernel
theorem dX8_words_12 : decode cX8_words 12 = .ok (.bipush 8, 2) := by decide +kernel
theorem dX8_words_14 : decode cX8_words 14 = .ok (.imul, 1) := by decide +kernel
theorem dX8_words_15 : decode cX8_words 15 = .ok (.iload_n 2, 1) := by decide +kernel
theorem dX8_words_16 : decode cX8_words 16 = .ok (.iadd, 1) := by decide +kernel
theorem dX8_words_17 : decode cX8_words 17 = .ok (.istore_n 3, 1) := by decide +kernel
theorem dX8_words_18 : decode cX8_words 18 = .ok (.aload_n 0, 1) := by decide +kernel
theorem dX8_words_19 : decode cX8_words 19 = .ok (.getfield 25, 3) := by decide +kernel
theorem dX8_words_22 : decode cX8_words 22 = .ok (.iload_n 3, 1) := by decide +kernel
theorem dX8_words_23 : decode cX8_words 23 = .ok (.iaload, 1) := by decide +kernel
theorem dX8_words_24 : decode cX8_words 24 = .ok (.ifCond .ne 10, 3) := by decide +kernel
theorem dX8_words_27 : decode cX8_words 27 = .ok (.aload_n 0, 1) := by decide +kernel
theorem dX8_words_28 : decode cX8_words 28 = .ok (.getfield 28, 3) := by decide +kernel
theorem dX8_words_31 : decode cX8_words 31 = .ok (.iload_n 3, 1) := by decide +kernel
theorem dX8_words_32 : decode cX8_words 32 = .ok (.iaload, 1) := by decide +kernel
theorem dX8_words_33 : decode cX8_words 33 = .ok (.ireturn, 1) := by decide +kernel
theorem dX8_words_34 : decode cX8_words 34 = .ok (.aload_n 0, 1) := by decide +kernel
theorem dX8_words_35 : decode cX8_words 35 = .ok (.getfield 25, 3) := by decide +kernel
theorem dX8_words_38 : decode cX8_words 38 = .ok (.iload_n 3, 1) := by decide +kernel
theorem dX8_words_39 : decode cX8_words 39 = .ok (.iaload, 1) := by decide +kernel
theorem dX8_words_40 : decode cX8_words 40 = .ok (.iconst 1, 1) := by decide +kernel
theorem dX8_words_41 : decode cX8_words 41 = .ok (.if_icmp .ne 7, 3) := by decide +kernel
theorem dX8_words_44 : decode cX8_words 44 = .ok (.iconst 1, 1) := by decide +kernel
theorem dX8_words_45 : decode cX8_words 45 = .ok (.goto 4, 3) := by decide +kernel
theorem dX8_words_48 : decode cX8_words 48 = .ok (.iconst 2, 1) := by decide +kernel
theorem dX8_words_49 : decode cX8_words 49 = .ok (.ireturn, 1) := by decide +kernel
def g_X8_words : Nat → EA := (t_n 23 (t_n 12 (t_n 6 (t_n 2 (t_n 1 (t_l 0 (a_aload 1 0)) (t_l 1 (a_iload 1 1))) (t_n 3 (t_l 2 (a_iload 1 2)) (t_l 3 (a_inv true 128 3 (some 8))))) (t_n 10 (t_n 9 (t_l 6 (a_if 11 (fun x => !decide (x = 0)))) (t_l 9 (a_push 1 (.int 0)))) (t_n 11 (t_l 10 a_iret) (t_l 11 (a_iload 1 1))))) (t_n 17 (t_n 15 (t_n 14 (t_l 12 (a_push 2 (.int 8))) (t_l 14 (a_ii 1 (fun x y => x * y)))) (t_n 16 (t_l 15 (a_iload 1 2)) (t_l 16 (a_ii 1 (fun x y => x + y))))) (t_n 19 (t_n 18 (t_l 17 (a_istore 4 1 3)) (t_l 18 (a_aload 1 0))) (t_n 22 (t_l 19 (a_getf 8 4)) (t_l 22 (a_iload 1 3)))))) (t_n 35 (t_n 31 (t_n 27 (t_n 24 (t_l 23 (a_ild 0)) (t_l 24 (a_if 34 (fun x => !decide (x = 0))))) (t_n 28 (t_l 27 (a_aload 1 0)) (t_l 28 (a_getf 8 5)))) (t_n 33 (t_n 32 (t_l 31 (a_iload 1 3)) (t_l 32 (a_ild 0))) (t_n 34 (t_l 33 a_iret) (t_l 34 (a_aload 1 0))))) (t_n 41 (t_n 39 (t_n 38 (t_l 35 (a_getf 8 4)) (t_l 38 (a_iload 1 3))) (t_n 40 (t_l 39 (a_ild 0)) (t_l 40 (a_push 1 (.int 1))))) (t_n 45 (t_n 44 (t_l 41 (a_ic 48 (fun x y => !decide (x = y)))) (t_l 44 (a_push 1 (.int 1)))) (t_n 48 (t_l 45 (a_goto 49)) (t_n 49 (t_l 48 (a_push 1 (.int 2))) (t_l 49 a_iret)))))))
set_option maxRecDepth 100000 in
theorem k_X8_words (sc : Nat × (Nat → Int32)) (d : Nat) : ∀ pc, ev_Ok cX8_words 4 [] RX8 lw_g lw_n (lw_q sc) vwCl false (ev_CO mt lw_g lw_n (lw_q sc) vwCl d) pc (g_X8_words pc) := (ok_t_n (ok_t_n (ok_t_n (ok_t_n (ok_t_n (ok_t_l (ok_aload_n dX8_words_0 rfl)) (ok_t_l (ok_iload_n dX8_words_1 rfl))) (ok_t_n (ok_t_l (ok_iload_n dX8_words_2 rfl)) (ok_t_l (ok_inv (run_V (y := 128) (n := 2) (ci := 8) dX8_words_3 cz_128 gdG cc_128 ci_128 w_435 cm_128 cs_128 cd_128 cl_128 rfl rfl))))) (ok_t_n (ok_t_n (ok_t_l (ok_if_ne dX8_words_6 rfl)) (ok_t_l (ok_iconst dX8_words_9 rfl))) (ok_t_n (ok_t_l (ok_ireturn dX8_words_10)) (ok_t_l (ok_iload_n dX8_words_11 rfl))))) (ok_t_n (ok_t_n (ok_t_n (ok_t_l (ok_bipush dX8_words_12 rfl)) (ok_t_l (ok_imul dX8_words_14))) (ok_t_n (ok_t_l (ok_iload_n dX8_words_15 rfl)) (ok_t_l (ok_iadd dX8_words_16)))) (ok_t_n (ok_t_n (ok_t_l (ok_istore_n dX8_words_17 rfl)) (ok_t_l (ok_aload_n dX8_words_18 rfl))) (ok_t_n (ok_t_l (ok_getfield dX8_words_19 (ci := 8) (kf := 4) rfl inGX8 (by decide) w_1006)) (ok_t_l (ok_iload_n dX8_words_22 rfl)))))) (ok_t_n (ok_t_n (ok_t_n (ok_t_n (ok_t_l (ok_iaload dX8_words_23)) (ok_t_l (ok_if_ne dX8_words_24 rfl))) (ok_t_n (ok_t_l (ok_aload_n dX8_words_27 rfl)) (ok_t_l (ok_getfield dX8_words_28 (ci := 8) (kf := 5) rfl inGX8 (by decide) w_1007)))) (ok_t_n (ok_t_n (ok_t_l (ok_iload_n dX8_words_31 rfl)) (ok_t_l (ok_iaload dX8_words_32))) (ok_t_n (ok_t_l (ok_ireturn dX8_words_33)) (ok_t_l (ok_aload_n dX8_words_34 rfl))))) (ok_t_n (ok_t_n (ok_t_n (ok_t_l (ok_getfield dX8_words_35 (ci := 8) (kf := 4) rfl inGX8 (by decide) w_1006)) (ok_t_l (ok_iload_n dX8_words_38 rfl))) (ok_t_n (ok_t_l (ok_iaload dX8_words_39)) (ok_t_l (ok_iconst dX8_words_40 rfl)))) (ok_t_n (ok_t_n (ok_t_l (ok_icmp_ne dX8_words_41 rfl)) (ok_t_l (ok_iconst dX8_words_44 rfl))) (ok_t_n (ok_t_l (ok_goto dX8_words_45 rfl)) (ok_t_n (ok_t_l (ok_iconst dX8_words_48 rfl)) (ok_t_l (ok_ireturn dX8_words_49))))))))
theorem dX8_name_0 : decode cX8_name 0 = .ok (.aload_n 0, 1) := by decide +kernel
theorem dX8_name_1 : decode cX8_name 1 = .ok (.iload_n 1, 1) := by decide +kernel
theorem dX8_name_2 : decode cX8_name 2 = .ok (.iload_n 2, 1) := by decide +kernel
theorem dX8_name_3 : decode cX8_name 3 = .ok (.invokevirtual 56, 3) := by decide +kernel
theorem dX8_name_6 : decode cX8_name 6 = .ok (.ifCond .eq 17, 3) := by decide +kernel
theorem dX8_name_9 : decode cX8_name 9 = .ok (.aload_n 0, 1) := by decide +kernel
theorem dX8_name_10 : decode cX8_name 10 = .ok (.getfield 28, 3) := by decide +kernel
theorem dX8_name_13 : decode cX8_name 13 = .ok (.iload_n 1, 1) := by decide +kernel
theorem dX8_name_14 : decode cX8_name 14 = .ok (.bipush 8, 2) := by decide +kernel
theorem dX8_name_16 : decode cX8_name 16 = .ok (.imul, 1) := by decide +kernel
theorem dX8_name_17 : decode cX8_name 17 = .ok (.iload_n 2, 1) := by decide +kernel
theorem dX8_name_18 : decode cX8_name 18 = .ok (.iadd, 1) := by decide +kernel
theorem dX8_name_19 : decode cX8_name 19 = .ok (.iaload, 1) := by decide +kernel
theorem dX8_name_20 : decode cX8_name 20 = .ok (.goto 4, 3) := by decide +kernel
theorem dX8_name_23 : decode cX8_name 23 = .ok (.iconst (-1), 1) := by decide +kernel
theorem dX8_name_24 : decode cX8_name 24 = .ok (.ireturn, 1) := by decide +kernel
def g_X8_name : Nat → EA := (t_n 14 (t_n 6 (t_n 2 (t_n 1 (t_l 0 (a_aload 1 0)) (t_l 1 (a_iload 1 1))) (t_n 3 (t_l 2 (a_iload 1 2)) (t_l 3 (a_inv true 128 3 (some 8))))) (t_n 10 (t_n 9 (t_l 6 (a_if 23 (fun x => decide (x = 0)))) (t_l 9 (a_aload 1 0))) (t_n 13 (t_l 10 (a_getf 8 5)) (t_l 13 (a_iload 1 1))))) (t_n 19 (t_n 17 (t_n 16 (t_l 14 (a_push 2 (.int 8))) (t_l 16 (a_ii 1 (fun x y => x * y)))) (t_n 18 (t_l 17 (a_iload 1 2)) (t_l 18 (a_ii 1 (fun x y => x + y))))) (t_n 23 (t_n 20 (t_l 19 (a_ild 0)) (t_l 20 (a_goto 24))) (t_n 24 (t_l 23 (a_push 1 (.int (-1)))) (t_l 24 a_iret)))))
set_option maxRecDepth 100000 in
theorem k_X8_name (sc : Nat × (Nat → Int32)) (d : Nat) : ∀ pc, ev_Ok cX8_name 3 [] RX8 lw_g lw_n (lw_q sc) vwCl false (ev_CO mt lw_g lw_n (lw_q sc) vwCl d) pc (g_X8_name pc) := (ok_t_n (ok_t_n (ok_t_n (ok_t_n (ok_t_l (ok_aload_n dX8_name_0 rfl)) (ok_t_l (ok_iload_n dX8_name_1 rfl))) (ok_t_n (ok_t_l (ok_iload_n dX8_name_2 rfl)) (ok_t_l (ok_inv (run_V (y := 128) (n := 2) (ci := 8) dX8_name_3 cz_128 gdG cc_128 ci_128 w_435 cm_128 cs_128 cd_128 cl_128 rfl rfl))))) (ok_t_n (ok_t_n (ok_t_l (ok_if_eq dX8_name_6 rfl)) (ok_t_l (ok_aload_n dX8_name_9 rfl))) (ok_t_n (ok_t_l (ok_getfield dX8_name_10 (ci := 8) (kf := 5) rfl inGX8 (by decide) w_1007)) (ok_t_l (ok_iload_n dX8_name_13 rfl))))) (ok_t_n (ok_t_n (ok_t_n (ok_t_l (ok_bipush dX8_name_14 rfl)) (ok_t_l (ok_imul dX8_name_16))) (ok_t_n (ok_t_l (ok_iload_n dX8_name_17 rfl)) (ok_t_l (ok_iadd dX8_name_18)))) (ok_t_n (ok_t_n (ok_t_l (ok_iaload dX8_name_19)) (ok_t_l (ok_goto dX8_name_20 rfl))) (ok_t_n (ok_t_l (ok_iconst dX8_name_23 rfl)) (ok_t_l (ok_ireturn dX8_name_24))))))
theorem dX8_added_0 : decode cX8_added 0 = .ok (.aload_n 0, 1) := by decide +kernel
theorem dX8_added_1 : decode cX8_added 1 = .ok (.iload_n 1, 1) := by decide +kernel
theorem dX8_added_2 : decode cX8_added 2 = .ok (.iload_n 2, 1) := by decide +kernel
theorem dX8_added_3 : decode cX8_added 3 = .ok (.invokevirtual 56, 3) := by decide +kernel
theorem dX8_added_6 : decode cX8_added 6 = .ok (.ifCond .eq 17, 3) := by decide +kernel
theorem dX8_added_9 : decode cX8_added 9 = .ok (.aload_n 0, 1) := by decide +kernel
theorem dX8_added_10 : decode cX8_added 10 = .ok (.getfield 31, 3) := by decide +kernel
theorem dX8_added_13 : decode cX8_added 13 = .ok (.iload_n 1, 1) := by decide +kernel
theorem dX8_added_14 : decode cX8_added 14 = .ok (.bipush 8, 2) := by decide +kernel
theorem dX8_added_16 : decode cX8_added 16 = .ok (.imul, 1) := by decide +kernel
theorem dX8_added_17 : decode cX8_added 17 = .ok (.iload_n 2, 1) := by decide +kernel
theorem dX8_added_18 : decode cX8_added 18 = .ok (.iadd, 1) := by decide +kernel
theorem dX8_added_19 : decode cX8_added 19 = .ok (.iaload, 1) := by decide +kernel
theorem dX8_added_20 : decode cX8_added 20 = .ok (.goto 4, 3) := by decide +kernel
theorem dX8_added_23 : decode cX8_added 23 = .ok (.iconst 0, 1) := by decide +kernel
theorem dX8_added_24 : decode cX8_added 24 = .ok (.ireturn, 1) := by decide +kernel
def g_X8_added : Nat → EA := (t_n 14 (t_n 6 (t_n 2 (t_n 1 (t_l 0 (a_aload 1 0)) (t_l 1 (a_iload 1 1))) (t_n 3 (t_l 2 (a_iload 1 2)) (t_l 3 (a_inv true 128 3 (some 8))))) (t_n 10 (t_n 9 (t_l 6 (a_if 23 (fun x => decide (x = 0)))) (t_l 9 (a_aload 1 0))) (t_n 13 (t_l 10 (a_getf 8 6)) (t_l 13 (a_iload 1 1))))) (t_n 19 (t_n 17 (t_n 16 (t_l 14 (a_push 2 (.int 8))) (t_l 16 (a_ii 1 (fun x y => x * y)))) (t_n 18 (t_l 17 (a_iload 1 2)) (t_l 18 (a_ii 1 (fun x y => x + y))))) (t_n 23 (t_n 20 (t_l 19 (a_ild 0)) (t_l 20 (a_goto 24))) (t_n 24 (t_l 23 (a_push 1 (.int 0))) (t_l 24 a_iret)))))
set_option maxRecDepth 100000 in
theorem k_X8_added (sc : Nat × (Nat → Int32)) (d : Nat) : ∀ pc, ev_Ok cX8_added 3 [] RX8 lw_g lw_n (lw_q sc) vwCl false (ev_CO mt lw_g lw_n (lw_q sc) vwCl d) pc (g_X8_added pc) := (ok_t_n (ok_t_n (ok_t_n (ok_t_n (ok_t_l (ok_aload_n dX8_added_0 rfl)) (ok_t_l (ok_iload_n dX8_added_1 rfl))) (ok_t_n (ok_t_l (ok_iload_n dX8_added_2 rfl)) (ok_t_l (ok_inv (run_V (y := 128) (n := 2) (ci := 8) dX8_added_3 cz_128 gdG cc_128 ci_128 w_435 cm_128 cs_128 cd_128 cl_128 rfl rfl))))) (ok_t_n (ok_t_n (ok_t_l (ok_if_eq dX8_added_6 rfl)) (ok_t_l (ok_aload_n dX8_added_9 rfl))) (ok_t_n (ok_t_l (ok_getfield dX8_added_10 (ci := 8) (kf := 6) rfl inGX8 (by decide) w_1008)) (ok_t_l (ok_iload_n dX8_added_13 rfl))))) (ok_t_n (ok_t_n (ok_t_n (ok_t_l (ok_bipush dX8_added_14 rfl)) (ok_t_l (ok_imul dX8_added_16))) (ok_t_n (ok_t_l (ok_iload_n dX8_added_17 rfl)) (ok_t_l (ok_iadd dX8_added_18)))) (ok_t_n (ok_t_n (ok_t_l (ok_iaload dX8_added_19)) (ok_t_l (ok_goto dX8_added_20 rfl))) (ok_t_n (ok_t_l (ok_iconst dX8_added_23 rfl)) (ok_t_l (ok_ireturn dX8_added_24))))))
theorem dX8_isWeak_0 : decode cX8_isWeak 0 = .ok (.aload_n 0, 1) := by decide +kernel
theorem dX8_isWeak_1 : decode cX8_isWeak 1 = .ok (.iload_n 1, 1) := by decide +kernel
theorem dX8_isWeak_2 : decode cX8_isWeak 2 = .ok (.iload_n 2, 1) := by decide +kernel
theorem dX8_isWeak_3 : decode cX8_isWeak 3 = .ok (.invokevirtual 56, 3) := by decide +kernel
theorem dX8_isWeak_6 : decode cX8_isWeak 6 = .ok (.ifCond .eq 21, 3) := by decide +kernel
theorem dX8_isWeak_9 : decode cX8_isWeak 9 = .ok (.aload_n 0, 1) := by decide +kernel
theorem dX8_isWeak_10 : decode cX8_isWeak 10 = .ok (.getfield 34, 3) := by decide +kernel
theorem dX8_isWeak_13 : decode cX8_isWeak 13 = .ok (.iload_n 1, 1) := by decide +kernel
theorem dX8_isWeak_14 : decode cX8_isWeak 14 = .ok (.bipush 8, 2) := by decide +kernel
theorem dX8_isWeak_16 : decode cX8_isWeak 16 = .ok (.imul, 1) := by decide +kernel
theorem dX8_isWeak_17 : decode cX8_isWeak 17 = .ok (.iload_n 2, 1) := by decide +kernel
theorem dX8_isWeak_18 : decode cX8_isWeak 18 = .ok (.iadd, 1) := by decide +kernel
theorem dX8_isWeak_19 : decode cX8_isWeak 19 = .ok (.baload, 1) := by decide +kernel
theorem dX8_isWeak_20 : decode cX8_isWeak 20 = .ok (.ifCond .eq 7, 3) := by decide +kernel
theorem dX8_isWeak_23 : decode cX8_isWeak 23 = .ok (.iconst 1, 1) := by decide +kernel
theorem dX8_isWeak_24 : decode cX8_isWeak 24 = .ok (.goto 4, 3) := by decide +kernel
theorem dX8_isWeak_27 : decode cX8_isWeak 27 = .ok (.iconst 0, 1) := by decide +kernel
theorem dX8_isWeak_28 : decode cX8_isWeak 28 = .ok (.ireturn, 1) := by decide +kernel
def g_X8_isWeak : Nat → EA := (t_n 16 (t_n 6 (t_n 2 (t_n 1 (t_l 0 (a_aload 1 0)) (t_l 1 (a_iload 1 1))) (t_n 3 (t_l 2 (a_iload 1 2)) (t_l 3 (a_inv true 128 3 (some 8))))) (t_n 10 (t_n 9 (t_l 6 (a_if 27 (fun x => decide (x = 0)))) (t_l 9 (a_aload 1 0))) (t_n 13 (t_l 10 (a_getf 8 7)) (t_n 14 (t_l 13 (a_iload 1 1)) (t_l 14 (a_push 2 (.int 8))))))) (t_n 20 (t_n 18 (t_n 17 (t_l 16 (a_ii 1 (fun x y => x * y))) (t_l 17 (a_iload 1 2))) (t_n 19 (t_l 18 (a_ii 1 (fun x y => x + y))) (t_l 19 (a_ild 1)))) (t_n 24 (t_n 23 (t_l 20 (a_if 27 (fun x => decide (x = 0)))) (t_l 23 (a_push 1 (.int 1)))) (t_n 27 (t_l 24 (a_goto 28)) (t_n 28 (t_l 27 (a_push 1 (.int 0))) (t_l 28 a_iret))))))
set_option maxRecDepth 100000 in
theorem k_X8_isWeak (sc : Nat × (Nat → Int32)) (d : Nat) : ∀ pc, ev_Ok cX8_isWeak 3 [] RX8 lw_g lw_n (lw_q sc) vwCl false (ev_CO mt lw_g lw_n (lw_q sc) vwCl d) pc (g_X8_isWeak pc) := (ok_t_n (ok_t_n (ok_t_n (ok_t_n (ok_t_l (ok_aload_n dX8_isWeak_0 rfl)) (ok_t_l (ok_iload_n dX8_isWeak_1 rfl))) (ok_t_n (ok_t_l (ok_iload_n dX8_isWeak_2 rfl)) (ok_t_l (ok_inv (run_V (y := 128) (n := 2) (ci := 8) dX8_isWeak_3 cz_128 gdG cc_128 ci_128 w_435 cm_128 cs_128 cd_128 cl_128 rfl rfl))))) (ok_t_n (ok_t_n (ok_t_l (ok_if_eq dX8_isWeak_6 rfl)) (ok_t_l (ok_aload_n dX8_isWeak_9 rfl))) (ok_t_n (ok_t_l (ok_getfield dX8_isWeak_10 (ci := 8) (kf := 7) rfl inGX8 (by decide) w_1009)) (ok_t_n (ok_t_l (ok_iload_n dX8_isWeak_13 rfl)) (ok_t_l (ok_bipush dX8_isWeak_14 rfl)))))) (ok_t_n (ok_t_n (ok_t_n (ok_t_l (ok_imul dX8_isWeak_16)) (ok_t_l (ok_iload_n dX8_isWeak_17 rfl))) (ok_t_n (ok_t_l (ok_iadd dX8_isWeak_18)) (ok_t_l (ok_zaload dX8_isWeak_19)))) (ok_t_n (ok_t_n (ok_t_l (ok_if_eq dX8_isWeak_20 rfl)) (ok_t_l (ok_iconst dX8_isWeak_23 rfl))) (ok_t_n (ok_t_l (ok_goto dX8_isWeak_24 rfl)) (ok_t_n (ok_t_l (ok_iconst dX8_isWeak_27 rfl)) (ok_t_l (ok_ireturn dX8_isWeak_28)))))))
theorem dX9_init_0 : decode cX9_init 0 = .ok (.aload_n 0, 1) := by decide +kernel
theorem dX9_init_1 : decode cX9_init 1 = .ok (.invokespecial 3, 3) := by decide +kernel
theorem dX9_init_4 : decode cX9_init 4 = .ok (.aload_n 0, 1) := by decide +kernel
theorem dX9_init_5 : decode cX9_init 5 = .ok (.bipush 20, 2) := by decide +kernel
theorem dX9_init_7 : decode cX9_init 7 = .ok (.newarray .int, 2) := by decide +kernel
theorem dX9_init_9 : decode cX9_init 9 = .ok (.putfield 9, 3) := by decide +kernel
theorem dX9_init_12 : decode cX9_init 12 = .ok (.aload_n 0, 1) := by decide +kernel
theorem dX9_init_13 : decode cX9_init 13 = .ok (.bipush 20, 2) := by decide +kernel
theorem dX9_init_15 : decode cX9_init 15 = .ok (.newarray .int, 2) := by decide +kernel
theorem dX9_init_17 : decode cX9_init 17 = .ok (.putfield 15, 3) := by decide +kernel
theorem dX9_init_20 : decode cX9_init 20 = .ok (.aload_n 0, 1) := by decide +kernel
theorem dX9_init_21 : decode cX9_init 21 = .ok (.bipush 20, 2) := by decide +kernel
theorem dX9_init_23 : decode cX9_init 23 = .ok (.newarray .int, 2) := by decide +kernel
theorem dX9_init_25 : decode cX9_init 25 = .ok (.putfield 18, 3) := by decide +kernel
theorem dX9_init_28 : decode cX9_init 28 = .ok (.aload_n 0, 1) := by decide +kernel
theorem dX9_init_29 : decode cX9_init 29 = .ok (.bipush 20, 2) := by decide +kernel
theorem dX9_init_31 : decode cX9_init 31 = .ok (.newarray .int, 2) := by decide +kernel
theorem dX9_init_33 : decode cX9_init 33 = .ok (.putfield 21, 3) := by decide +kernel
theorem dX9_init_36 : decode cX9_init 36 = .ok (.aload_n 0, 1) := by decide +kernel
theorem dX9_init_37 : decode cX9_init 37 = .ok (.bipush 20, 2) := by decide +kernel
theorem dX9_init_39 : decode cX9_init 39 = .ok (.newarray .int, 2) := by decide +kernel
theorem dX9_init_41 : decode cX9_init 41 = .ok (.putfield 24, 3) := by decide +kernel
theorem dX9_init_44 : decode cX9_init 44 = .ok (.aload_n 0, 1) := by decide +kernel
theorem dX9_init_45 : decode cX9_init 45 = .ok (.bipush 20, 2) := by decide +kernel
theorem dX9_init_47 : decode cX9_init 47 = .ok (.newarray .int, 2) := by decide +kernel
theorem dX9_init_49 : decode cX9_init 49 = .ok (.putfield 27, 3) := by decide +kernel
theorem dX9_init_52 : decode cX9_init 52 = .ok (.aload_n 0, 1) := by decide +kernel
theorem dX9_init_53 : decode cX9_init 53 = .ok (.iconst 0, 1) := by decide +kernel
theorem dX9_init_54 : decode cX9_init 54 = .ok (.putfield 30, 3) := by decide +kernel
theorem dX9_init_57 : decode cX9_init 57 = .ok (.aload_n 0, 1) := by decide +kernel
theorem dX9_init_58 : decode cX9_init 58 = .ok (.iconst 0, 1) := by decide +kernel
theorem dX9_init_59 : decode cX9_init 59 = .ok (.putfield 34, 3) := by decide +kernel
theorem dX9_init_62 : decode cX9_init 62 = .ok (.aload_n 0, 1) := by decide +kernel
theorem dX9_init_63 : decode cX9_init 63 = .ok (.aload_n 1, 1) := by decide +kernel
theorem dX9_init_64 : decode cX9_init 64 = .ok (.putfield 37, 3) := by decide +kernel
theorem dX9_init_67 : decode cX9_init 67 = .ok (.aload_n 0, 1) := by decide +kernel
theorem dX9_init_68 : decode cX9_init 68 = .ok (.aload_n 2, 1) := by decide +kernel
theorem dX9_init_69 : decode cX9_init 69 = .ok (.putfield 41, 3) := by decide +kernel
theorem dX9_init_72 : decode cX9_init 72 = .ok (.aload_n 0, 1) := by decide +kernel
theorem dX9_init_73 : decode cX9_init 73 = .ok (.invokevirtual 45, 3) := by decide +kernel
theorem dX9_init_76 : decode cX9_init 76 = .ok (.return_, 1) := by decide +kernel
def g_X9_init : Nat → EA := (t_n 39 (t_n 20 (t_n 9 (t_n 4 (t_n 1 (t_l 0 (a_aload 1 0)) (t_l 1 a_objI)) (t_n 5 (t_l 4 (a_aload 1 0)) (t_n 7 (t_l 5 (a_push 2 (.int 20))) (t_l 7 (a_newa 0))))) (t_n 13 (t_n 12 (t_l 9 (a_putf 9 9 2)) (t_l 12 (a_aload 1 0))) (t_n 15 (t_l 13 (a_push 2 (.int 20))) (t_n 17 (t_l 15 (a_newa 0)) (t_l 17 (a_putf 9 9 3)))))) (t_n 29 (t_n 23 (t_n 21 (t_l 20 (a_aload 1 0)) (t_l 21 (a_push 2 (.int 20)))) (t_n 25 (t_l 23 (a_newa 0)) (t_n 28 (t_l 25 (a_putf 9 9 4)) (t_l 28 (a_aload 1 0))))) (t_n 33 (t_n 31 (t_l 29 (a_push 2 (.int 20))) (t_l 31 (a_newa 0))) (t_n 36 (t_l 33 (a_putf 9 9 5)) (t_n 37 (t_l 36 (a_aload 1 0)) (t_l 37 (a_push 2 (.int 20)))))))) (t_n 58 (t_n 49 (t_n 44 (t_n 41 (t_l 39 (a_newa 0)) (t_l 41 (a_putf 9 9 6))) (t_n 45 (t_l 44 (a_aload 1 0)) (t_n 47 (t_l 45 (a_push 2 (.int 20))) (t_l 47 (a_newa 0))))) (t_n 53 (t_n 52 (t_l 49 (a_putf 9 9 7)) (t_l 52 (a_aload 1 0))) (t_n 54 (t_l 53 (a_push 1 (.int 0))) (t_n 57 (t_l 54 (a_putf 0 9 8)) (t_l 57 (a_aload 1 0)))))) (t_n 67 (t_n 62 (t_n 59 (t_l 58 (a_push 1 (.int 0))) (t_l 59 (a_putf 0 9 9))) (t_n 63 (t_l 62 (a_aload 1 0)) (t_n 64 (t_l 63 (a_aload 1 1)) (t_l 64 (a_putf 9 9 0))))) (t_n 72 (t_n 68 (t_l 67 (a_aload 1 0)) (t_n 69 (t_l 68 (a_aload 1 2)) (t_l 69 (a_putf 9 9 1)))) (t_n 73 (t_l 72 (a_aload 1 0)) (t_n 76 (t_l 73 (a_inv true 136 1 (some 9))) (t_l 76 a_vret)))))))
set_option maxRecDepth 100000 in
theorem k_X9_init (sc : Nat × (Nat → Int32)) (d : Nat) : ∀ pc, ev_Ok cX9_init 3 [] RX9 lw_g lw_n (lw_q sc) vwCl true (ev_CO mt lw_g lw_n (lw_q sc) vwCl d) pc (g_X9_init pc) := (ok_t_n (ok_t_n (ok_t_n (ok_t_n (ok_t_n (ok_t_l (ok_aload_n dX9_init_0 rfl)) (ok_t_l (ok_objinit dX9_init_1 w_1160 w_94 w_obj ev_CO.small))) (ok_t_n (ok_t_l (ok_aload_n dX9_init_4 rfl)) (ok_t_n (ok_t_l (ok_bipush dX9_init_5 rfl)) (ok_t_l (ok_newint dX9_init_7 w_614))))) (ok_t_n (ok_t_n (ok_t_l (ok_putfieldF dX9_init_9 (ci := 9) (kf := 2) rfl inGX9 (by decide) tyX9_ok nmX9 rfl w_1163 rfl rfl rfl)) (ok_t_l (ok_aload_n dX9_init_12 rfl))) (ok_t_n (ok_t_l (ok_bipush dX9_init_13 rfl)) (ok_t_n (ok_t_l (ok_newint dX9_init_15 w_614)) (ok_t_l (ok_putfieldF dX9_init_17 (ci := 9) (kf := 3) rfl inGX9 (by decide) tyX9_ok nmX9 rfl w_1164 rfl rfl rfl)))))) (ok_t_n (ok_t_n (ok_t_n (ok_t_l (ok_aload_n dX9_init_20 rfl)) (ok_t_l (ok_bipush dX9_init_21 rfl))) (ok_t_n (ok_t_l (ok_newint dX9_init_23 w_614)) (ok_t_n (ok_t_l (ok_putfieldF dX9_init_25 (ci := 9) (kf := 4) rfl inGX9 (by decide) tyX9_ok nmX9 rfl w_1165 rfl rfl rfl)) (ok_t_l (ok_aload_n dX9_init_28 rfl))))) (ok_t_n (ok_t_n (ok_t_l (ok_bipush dX9_init_29 rfl)) (ok_t_l (ok_newint dX9_init_31 w_614))) (ok_t_n (ok_t_l (ok_putfieldF dX9_init_33 (ci := 9) (kf := 5) rfl inGX9 (by decide) tyX9_ok nmX9 rfl w_1166 rfl rfl rfl)) (ok_t_n (ok_t_l (ok_aload_n dX9_init_36 rfl)) (ok_t_l (ok_bipush dX9_init_37 rfl))))))) (ok_t_n (ok_t_n (ok_t_n (ok_t_n (ok_t_l (ok_newint dX9_init_39 w_614)) (ok_t_l (ok_putfieldF dX9_init_41 (ci := 9) (kf := 6) rfl inGX9 (by decide) tyX9_ok nmX9 rfl w_1167 rfl rfl rfl))) (ok_t_n (ok_t_l (ok_aload_n dX9_init_44 rfl)) (ok_t_n (ok_t_l (ok_bipush dX9_init_45 rfl)) (ok_t_l (ok_newint dX9_init_47 w_614))))) (ok_t_n (ok_t_n (ok_t_l (ok_putfieldF dX9_init_49 (ci := 9) (kf := 7) rfl inGX9 (by decide) tyX9_ok nmX9 rfl w_1168 rfl rfl rfl)) (ok_t_l (ok_aload_n dX9_init_52 rfl))) (ok_t_n (ok_t_l (ok_iconst dX9_init_53 rfl)) (ok_t_n (ok_t_l (ok_putfield dX9_init_54 (ci := 9) (kf := 8) rfl inGX9 (by decide) tyX9_ok nmX9 rfl w_1169 rfl)) (ok_t_l (ok_aload_n dX9_init_57 rfl)))))) (ok_t_n (ok_t_n (ok_t_n (ok_t_l (ok_iconst dX9_init_58 rfl)) (ok_t_l (ok_putfield dX9_init_59 (ci := 9) (kf := 9) rfl inGX9 (by decide) tyX9_ok nmX9 rfl w_1170 rfl))) (ok_t_n (ok_t_l (ok_aload_n dX9_init_62 rfl)) (ok_t_n (ok_t_l (ok_aload_n dX9_init_63 rfl)) (ok_t_l (ok_putfieldF dX9_init_64 (ci := 9) (kf := 0) rfl inGX9 (by decide) tyX9_ok nmX9 rfl w_1161 rfl rfl rfl))))) (ok_t_n (ok_t_n (ok_t_l (ok_aload_n dX9_init_67 rfl)) (ok_t_n (ok_t_l (ok_aload_n dX9_init_68 rfl)) (ok_t_l (ok_putfieldF dX9_init_69 (ci := 9) (kf := 1) rfl inGX9 (by decide) tyX9_ok nmX9 rfl w_1162 rfl rfl rfl)))) (ok_t_n (ok_t_l (ok_aload_n dX9_init_72 rfl)) (ok_t_n (ok_t_l (ok_inv (run_V (y := 136) (n := 0) (ci := 9) dX9_init_73 cz_136 gdG cc_136 ci_136 w_322 cm_136 cs_136 cd_136 cl_136 rfl rfl))) (ok_t_l (ok_vreturn dX9_init_76))))))))
theorem dX9_forget_0 : decode cX9_forget 0 = .ok (.aload_n 0, 1) := by decide +kernel
theorem dX9_forget_1 : decode cX9_forget 1 = .ok (.iconst 0, 1) := by decide +kernel
theorem dX9_forget_2 : decode cX9_forget 2 = .ok (.putfield 30, 3) := by decide +kernel
theorem dX9_forget_5 : decode cX9_forget 5 = .ok (.aload_n 0, 1) := by decide +kernel
theorem dX9_forget_6 : decode cX9_forget 6 = .ok (.iconst 0, 1) := by decide +kernel
theorem dX9_forget_7 : decode cX9_forget 7 = .ok (.putfield 34, 3) := by decide +kernel
theorem dX9_forget_10 : decode cX9_forget 10 = .ok (.iconst 0, 1) := by decide +kernel
theorem dX9_forget_11 : decode cX9_forget 11 = .ok (.istore_n 1, 1) := by decide +kernel
theorem dX9_forget_12 : decode cX9_forget 12 = .ok (.iload_n 1, 1) := by decide +kernel
theorem dX9_forget_13 : decode cX9_forget 13 = .ok (.bipush 20, 2) := by decide +kernel
theorem dX9_forget_15 : decode cX9_forget 15 = .ok (.if_icmp .ge 37, 3) := by decide +kernel
theorem dX9_forget_18 : decode cX9_forget 18 = .ok (.aload_n 0, 1) := by decide +kernel
theorem dX9_forget_19 : decode cX9_forget 19 = .ok (.getfield 9, 3) := by decide +kernel
theorem dX9_forget_22 : decode cX9_forget 22 = .ok (.iload_n 1, 1) := by decide +kernel
theorem dX9_forget_23 : decode cX9_forget 23 = .ok (.iconst (-1), 1) := by decide +kernel
theorem dX9_forget_24 : decode cX9_forget 24 = .ok (.iastore, 1) := by decide +kernel
theorem dX9_forget_25 : decode cX9_forget 25 = .ok (.aload_n 0, 1) := by decide +kernel
theorem dX9_forget_26 : decode cX9_forget 26 = .ok (.getfield 15, 3) := by decide +kernel
theorem dX9_forget_29 : decode cX9_forget 29 = .ok (.iload_n 1, 1) := by decide +kernel
theorem dX9_forget_30 : decode cX9_forget 30 = .ok (.iconst (-1), 1) := by decide +kernel
theorem dX9_forget_31 : decode cX9_forget 31 = .ok (.iastore, 1) := by decide +kernel
theorem dX9_forget_32 : decode cX9_forget 32 = .ok (.aload_n 0, 1) := by decide +kernel
theorem dX9_forget_33 : decode cX9_forget 33 = .ok (.getfield 18, 3) := by decide +kernel
theorem dX9_forget_36 : decode cX9_forget 36 = .ok (.iload_n 1, 1) := by decide +kernel
theorem dX9_forget_37 : decode cX9_forget 37 = .ok (.iconst (-1), 1) := by decide +kernel
theorem dX9_forget_38 : decode cX9_forget 38 = .ok (.iastore, 1) := by decide +kernel
theorem dX9_forget_39 : decode cX9_forget 39 = .ok (.aload_n 0, 1) := by decide +kernel
theorem dX9_forget_40 : decode cX9_forget 40 = .ok (.getfield 21, 3) := by decide +kernel
theorem dX9_forget_43 : decode cX9_forget 43 = .ok (.iload_n 1, 1) := by decide +kernel
theorem dX9_forget_44 : decode cX9_forget 44 = .ok (.iconst (-1), 1) := by decide +kernel
theorem dX9_forget_45 : decode cX9_forget 45 = .ok (.iastore, 1) := by decide +kernel
theorem dX9_forget_46 : decode cX9_forget 46 = .ok (.iinc 1 1, 3) := by decide +kernel
theorem dX9_forget_49 : decode cX9_forget 49 = .ok (.goto (-37), 3) := by decide +kernel
theorem dX9_forget_52 : decode cX9_forget 52 = .ok (.return_, 1) := by decide +kernel
def g_X9_forget : Nat → EA := (t_n 26 (t_n 12 (t_n 6 (t_n 2 (t_n 1 (t_l 0 (a_aload 1 0)) (t_l 1 (a_push 1 (.int 0)))) (t_n 5 (t_l 2 (a_putf 0 9 8)) (t_l 5 (a_aload 1 0)))) (t_n 10 (t_n 7 (t_l 6 (a_push 1 (.int 0))) (t_l 7 (a_putf 0 9 9))) (t_n 11 (t_l 10 (a_push 1 (.int 0))) (t_l 11 (a_istore 2 1 1))))) (t_n 19 (t_n 15 (t_n 13 (t_l 12 (a_iload 1 1)) (t_l 13 (a_push 2 (.int 20)))) (t_n 18 (t_l 15 (a_ic 52 (fun x y => decide (y ≤ x)))) (t_l 18 (a_aload 1 0)))) (t_n 23 (t_n 22 (t_l 19 (a_getf 9 2)) (t_l 22 (a_iload 1 1))) (t_n 24 (t_l 23 (a_push 1 (.int (-1)))) (t_n 25 (t_l 24 (a_ist 0)) (t_l 25 (a_aload 1 0))))))) (t_n 38 (t_n 32 (t_n 30 (t_n 29 (t_l 26 (a_getf 9 3)) (t_l 29 (a_iload 1 1))) (t_n 31 (t_l 30 (a_push 1 (.int (-1)))) (t_l 31 (a_ist 0)))) (t_n 36 (t_n 33 (t_l 32 (a_aload 1 0)) (t_l 33 (a_getf 9 4))) (t_n 37 (t_l 36 (a_iload 1 1)) (t_l 37 (a_push 1 (.int (-1))))))) (t_n 44 (t_n 40 (t_n 39 (t_l 38 (a_ist 0)) (t_l 39 (a_aload 1 0))) (t_n 43 (t_l 40 (a_getf 9 5)) (t_l 43 (a_iload 1 1)))) (t_n 46 (t_n 45 (t_l 44 (a_push 1 (.int (-1)))) (t_l 45 (a_ist 0))) (t_n 49 (t_l 46 (a_iinc 2 1 1)) (t_n 52 (t_l 49 (a_goto 12)) (t_l 52 a_vret)))))))
set_option maxRecDepth 100000 in
theorem k_X9_forget (sc : Nat × (Nat → Int32)) (d : Nat) : ∀ pc, ev_Ok cX9_forget 2 [] RX9 lw_g lw_n (lw_q sc) vwCl false (ev_CO mt lw_g lw_n (lw_q sc) vwCl d) pc (g_X9_forget pc) := (ok_t_n (ok_t_n (ok_t_n (ok_t_n (ok_t_n (ok_t_l (ok_aload_n dX9_forget_0 rfl)) (ok_t_l (ok_iconst dX9_forget_1 rfl))) (ok_t_n (ok_t_l (ok_putfield dX9_forget_2 (ci := 9) (kf := 8) rfl inGX9 (by decide) tyX9_ok nmX9 rfl w_1169 rfl)) (ok_t_l (ok_aload_n dX9_forget_5 rfl)))) (ok_t_n (ok_t_n (ok_t_l (ok_iconst dX9_forget_6 rfl)) (ok_t_l (ok_putfield dX9_forget_7 (ci := 9) (kf := 9) rfl inGX9 (by decide) tyX9_ok nmX9 rfl w_1170 rfl))) (ok_t_n (ok_t_l (ok_iconst dX9_forget_10 rfl)) (ok_t_l (ok_istore_n dX9_forget_11 rfl))))) (ok_t_n (ok_t_n (ok_t_n (ok_t_l (ok_iload_n dX9_forget_12 rfl)) (ok_t_l (ok_bipush dX9_forget_13 rfl))) (ok_t_n (ok_t_l (ok_icmp_ge dX9_forget_15 rfl)) (ok_t_l (ok_aload_n dX9_forget_18 rfl)))) (ok_t_n (ok_t_n (ok_t_l (ok_getfield dX9_forget_19 (ci := 9) (kf := 2) rfl inGX9 (by decide) w_1163)) (ok_t_l (ok_iload_n dX9_forget_22 rfl))) (ok_t_n (ok_t_l (ok_iconst dX9_forget_23 rfl)) (ok_t_n (ok_t_l (ok_iastore dX9_forget_24)) (ok_t_l (ok_aload_n dX9_forget_25 rfl))))))) (ok_t_n (ok_t_n (ok_t_n (ok_t_n (ok_t_l (ok_getfield dX9_forget_26 (ci := 9) (kf := 3) rfl inGX9 (by decide) w_1164)) (ok_t_l (ok_iload_n dX9_forget_29 rfl))) (ok_t_n (ok_t_l (ok_iconst dX9_forget_30 rfl)) (ok_t_l (ok_iastore dX9_forget_31)))) (ok_t_n (ok_t_n (ok_t_l (ok_aload_n dX9_forget_32 rfl)) (ok_t_l (ok_getfield dX9_forget_33 (ci := 9) (kf := 4) rfl inGX9 (by decide) w_1165))) (ok_t_n (ok_t_l (ok_iload_n dX9_forget_36 rfl)) (ok_t_l (ok_iconst dX9_forget_37 rfl))))) (ok_t_n (ok_t_n (ok_t_n (ok_t_l (ok_iastore dX9_forget_38)) (ok_t_l (ok_aload_n dX9_forget_39 rfl))) (ok_t_n (ok_t_l (ok_getfield dX9_forget_40 (ci := 9) (kf := 5) rfl inGX9 (by decide) w_1166)) (ok_t_l (ok_iload_n dX9_forget_43 rfl)))) (ok_t_n (ok_t_n (ok_t_l (ok_iconst dX9_forget_44 rfl)) (ok_t_l (ok_iastore dX9_forget_45))) (ok_t_n (ok_t_l (ok_iinc dX9_forget_46 rfl)) (ok_t_n (ok_t_l (ok_goto dX9_forget_49 rfl)) (ok_t_l (ok_vreturn dX9_forget_52))))))))
theorem dX9_settle_0 : decode cX9_settle 0 = .ok (.aload_n 0, 1) := by decide +kernel
theorem dX9_settle_1 : decode cX9_settle 1 = .ok (.invokevirtual 45, 3) := by decide +kernel
theorem dX9_settle_4 : decode cX9_settle 4 = .ok (.iconst 0, 1) := by decide +kernel
theorem dX9_settle_5 : decode cX9_settle 5 = .ok (.istore_n 1, 1) := by decide +kernel
theorem dX9_settle_6 : decode cX9_settle 6 = .ok (.iload_n 1, 1) := by decide +kernel
theorem dX9_settle_7 : decode cX9_settle 7 = .ok (.bipush 20, 2) := by decide +kernel
theorem dX9_settle_9 : decode cX9_settle 9 = .ok (.if_icmp .ge 41, 3) := by decide +kernel
theorem dX9_settle_12 : decode cX9_settle 12 = .ok (.iconst 0, 1) := by decide +kernel
theorem dX9_settle_13 : decode cX9_settle 13 = .ok (.istore_n 2, 1) := by decide +kernel
theorem dX9_settle_14 : decode cX9_settle 14 = .ok (.iload_n 2, 1) := by decide +kernel
theorem dX9_settle_15 : decode cX9_settle 15 = .ok (.aload_n 0, 1) := by decide +kernel
theorem dX9_settle_16 : decode cX9_settle 16 = .ok (.getfield 41, 3) := by decide +kernel
theorem dX9_settle_19 : decode cX9_settle 19 = .ok (.invokevirtual 48, 3) := by decide +kernel
theorem dX9_settle_22 : decode cX9_settle 22 = .ok (.if_icmp .ge 22, 3) := by decide +kernel
theorem dX9_settle_25 : decode cX9_settle 25 = .ok (.aload_n 0, 1) := by decide +kernel
theorem dX9_settle_26 : decode cX9_settle 26 = .ok (.iload_n 1, 1) := by decide +kernel
theorem dX9_settle_27 : decode cX9_settle 27 = .ok (.aload_n 0, 1) := by decide +kernel
theorem dX9_settle_28 : decode cX9_settle 28 = .ok (.getfield 41, 3) := by decide +kernel
theorem dX9_settle_31 : decode cX9_settle 31 = .ok (.iload_n 2, 1) := by decide +kernel
theorem dX9_settle_32 : decode cX9_settle 32 = .ok (.invokevirtual 54, 3) := by decide +kernel
theorem dX9_settle_35 : decode cX9_settle 35 = .ok (.invokevirtual 58, 3) := by decide +kernel
theorem dX9_settle_38 : decode cX9_settle 38 = .ok (.iinc 2 1, 3) := by decide +kernel
theorem dX9_settle_41 : decode cX9_settle 41 = .ok (.goto (-27), 3) := by decide +kernel
theorem dX9_settle_44 : decode cX9_settle 44 = .ok (.iinc 1 1, 3) := by decide +kernel
theorem dX9_settle_47 : decode cX9_settle 47 = .ok (.goto (-41), 3) := by decide +kernel
theorem dX9_settle_50 : decode cX9_settle 50 = .ok (.return_, 1) := by decide +kernel
def g_X9_settle : Nat → EA := (t_n 22 (t_n 9 (t_n 5 (t_n 1 (t_l 0 (a_aload 1 0)) (t_n 4 (t_l 1 (a_inv true 136 1 (some 9))) (t_l 4 (a_push 1 (.int 0))))) (t_n 6 (t_l 5 (a_istore 3 1 1)) (t_n 7 (t_l 6 (a_iload 1 1)) (t_l 7 (a_push 2 (.int 20)))))) (t_n 14 (t_n 12 (t_l 9 (a_ic 50 (fun x y => decide (y ≤ x)))) (t_n 13 (t_l 12 (a_push 1 (.int 0))) (t_l 13 (a_istore 3 1 2)))) (t_n 16 (t_n 15 (t_l 14 (a_iload 1 2)) (t_l 15 (a_aload 1 0))) (t_n 19 (t_l 16 (a_getf 9 1)) (t_l 19 (a_inv true 149 1 (some 10))))))) (t_n 32 (t_n 27 (t_n 25 (t_l 22 (a_ic 44 (fun x y => decide (y ≤ x)))) (t_n 26 (t_l 25 (a_aload 1 0)) (t_l 26 (a_iload 1 1)))) (t_n 28 (t_l 27 (a_aload 1 0)) (t_n 31 (t_l 28 (a_getf 9 1)) (t_l 31 (a_iload 1 2))))) (t_n 41 (t_n 35 (t_l 32 (a_inv true 150 2 (some 10))) (t_n 38 (t_l 35 (a_inv true 138 3 (some 9))) (t_l 38 (a_iinc 3 2 1)))) (t_n 47 (t_n 44 (t_l 41 (a_goto 14)) (t_l 44 (a_iinc 3 1 1))) (t_n 50 (t_l 47 (a_goto 6)) (t_l 50 a_vret))))))
set_option maxRecDepth 100000 in
theorem k_X9_settle (sc : Nat × (Nat → Int32)) (d : Nat) : ∀ pc, ev_Ok cX9_settle 3 [] RX9 lw_g lw_n (lw_q sc) vwCl false (ev_CO mt lw_g lw_n (lw_q sc) vwCl d) pc (g_X9_settle pc) := (ok_t_n (ok_t_n (ok_t_n (ok_t_n (ok_t_l (ok_aload_n dX9_settle_0 rfl)) (ok_t_n (ok_t_l (ok_inv (run_V (y := 136) (n := 0) (ci := 9) dX9_settle_1 cz_136 gdG cc_136 ci_136 w_322 cm_136 cs_136 cd_136 cl_136 rfl rfl))) (ok_t_l (ok_iconst dX9_settle_4 rfl)))) (ok_t_n (ok_t_l (ok_istore_n dX9_settle_5 rfl)) (ok_t_n (ok_t_l (ok_iload_n dX9_settle_6 rfl)) (ok_t_l (ok_bipush dX9_settle_7 rfl))))) (ok_t_n (ok_t_n (ok_t_l (ok_icmp_ge dX9_settle_9 rfl)) (ok_t_n (ok_t_l (ok_iconst dX9_settle_12 rfl)) (ok_t_l (ok_istore_n dX9_settle_13 rfl)))) (ok_t_n (ok_t_n (ok_t_l (ok_iload_n dX9_settle_14 rfl)) (ok_t_l (ok_aload_n dX9_settle_15 rfl))) (ok_t_n (ok_t_l (ok_getfield dX9_settle_16 (ci := 9) (kf := 1) rfl inGX9 (by decide) w_1162)) (ok_t_l (ok_inv (run_V (y := 149) (n := 0) (ci := 10) dX9_settle_19 cz_149 gdG cc_149 ci_149 w_327 cm_149 cs_149 cd_149 cl_149 rfl rfl))))))) (ok_t_n (ok_t_n (ok_t_n (ok_t_l (ok_icmp_ge dX9_settle_22 rfl)) (ok_t_n (ok_t_l (ok_aload_n dX9_settle_25 rfl)) (ok_t_l (ok_iload_n dX9_settle_26 rfl)))) (ok_t_n (ok_t_l (ok_aload_n dX9_settle_27 rfl)) (ok_t_n (ok_t_l (ok_getfield dX9_settle_28 (ci := 9) (kf := 1) rfl inGX9 (by decide) w_1162)) (ok_t_l (ok_iload_n dX9_settle_31 rfl))))) (ok_t_n (ok_t_n (ok_t_l (ok_inv (run_V (y := 150) (n := 1) (ci := 10) dX9_settle_32 cz_150 gdG cc_150 ci_150 w_331 cm_150 cs_150 cd_150 cl_150 rfl rfl))) (ok_t_n (ok_t_l (ok_inv (run_V (y := 138) (n := 2) (ci := 9) dX9_settle_35 cz_138 gdG cc_138 ci_138 w_335 cm_138 cs_138 cd_138 cl_138 rfl rfl))) (ok_t_l (ok_iinc dX9_settle_38 rfl)))) (ok_t_n (ok_t_n (ok_t_l (ok_goto dX9_settle_41 rfl)) (ok_t_l (ok_iinc dX9_settle_44 rfl))) (ok_t_n (ok_t_l (ok_goto dX9_settle_47 rfl)) (ok_t_l (ok_vreturn dX9_settle_50)))))))
theorem dX9_weigh_0 : decode cX9_weigh 0 = .ok (.aload_n 0, 1) := by decide +kernel
theorem dX9_weigh_1 : decode cX9_weigh 1 = .ok (.getfield 37, 3) := by decide +kernel
theorem dX9_weigh_4 : decode cX9_weigh 4 = .ok (.iload_n 2, 1) := by decide +kernel
theorem dX9_weigh_5 : decode cX9_weigh 5 = .ok (.iload_n 1, 1) := by decide +kernel
theorem dX9_weigh_6 : decode cX9_weigh 6 = .ok (.invokevirtual 62, 3) := by decide +kernel
theorem dX9_weigh_9 : decode cX9_weigh 9 = .ok (.istore_n 3, 1) := by decide +kernel
theorem dX9_weigh_10 : decode cX9_weigh 10 = .ok (.iload_n 3, 1) := by decide +kernel
theorem dX9_weigh_11 : decode cX9_weigh 11 = .ok (.iconst (-1), 1) := by decide +kernel
theorem dX9_weigh_12 : decode cX9_weigh 12 = .ok (.if_icmp .eq 10, 3) := by decide +kernel
theorem dX9_weigh_15 : decode cX9_weigh 15 = .ok (.iload_n 1, 1) := by decide +kernel
theorem dX9_weigh_16 : decode cX9_weigh 16 = .ok (.invokestatic 68, 3) := by decide +kernel
theorem dX9_weigh_19 : decode cX9_weigh 19 = .ok (.ifCond .ne 4, 3) := by decide +kernel
theorem dX9_weigh_22 : decode cX9_weigh 22 = .ok (.return_, 1) := by decide +kernel
theorem dX9_weigh_23 : decode cX9_weigh 23 = .ok (.iload_n 3, 1) := by decide +kernel
theorem dX9_weigh_24 : decode cX9_weigh 24 = .ok (.ifCond .ne 27, 3) := by decide +kernel
theorem dX9_weigh_27 : decode cX9_weigh 27 = .ok (.aload_n 0, 1) := by decide +kernel
theorem dX9_weigh_28 : decode cX9_weigh 28 = .ok (.getfield 9, 3) := by decide +kernel
theorem dX9_weigh_31 : decode cX9_weigh 31 = .ok (.iload_n 1, 1) := by decide +kernel
theorem dX9_weigh_32 : decode cX9_weigh 32 = .ok (.iaload, 1) := by decide +kernel
theorem dX9_weigh_33 : decode cX9_weigh 33 = .ok (.ifCond .ne 18, 3) := by decide +kernel
theorem dX9_weigh_36 : decode cX9_weigh 36 = .ok (.aload_n 0, 1) := by decide +kernel
theorem dX9_weigh_37 : decode cX9_weigh 37 = .ok (.dup, 1) := by decide +kernel
theorem dX9_weigh_38 : decode cX9_weigh 38 = .ok (.getfield 34, 3) := by decide +kernel
theorem dX9_weigh_41 : decode cX9_weigh 41 = .ok (.iconst 1, 1) := by decide +kernel
theorem dX9_weigh_42 : decode cX9_weigh 42 = .ok (.iload_n 1, 1) := by decide +kernel
theorem dX9_weigh_43 : decode cX9_weigh 43 = .ok (.ishl, 1) := by decide +kernel
theorem dX9_weigh_44 : decode cX9_weigh 44 = .ok (.ior, 1) := by decide +kernel
theorem dX9_weigh_45 : decode cX9_weigh 45 = .ok (.putfield 34, 3) := by decide +kernel
theorem dX9_weigh_48 : decode cX9_weigh 48 = .ok (.goto 96, 3) := by decide +kernel
theorem dX9_weigh_51 : decode cX9_weigh 51 = .ok (.iload_n 3, 1) := by decide +kernel
theorem dX9_weigh_52 : decode cX9_weigh 52 = .ok (.iconst 1, 1) := by decide +kernel
theorem dX9_weigh_53 : decode cX9_weigh 53 = .ok (.if_icmp .ne 64, 3) := by decide +kernel
theorem dX9_weigh_56 : decode cX9_weigh 56 = .ok (.aload_n 0, 1) := by decide +kernel
theorem dX9_weigh_57 : decode cX9_weigh 57 = .ok (.getfield 9, 3) := by decide +kernel
theorem dX9_weigh_60 : decode cX9_weigh 60 = .ok (.iload_n 1, 1) := by decide +kernel
theorem dX9_weigh_61 : decode cX9_weigh 61 = .ok (.iaload, 1) := by decide +kernel
theorem dX9_weigh_62 : decode cX9_weigh 62 = .ok (.iconst 1, 1) := by decide +kernel
theorem dX9_weigh_63 : decode cX9_weigh 63 = .ok (.if_icmp .ne 54, 3) := by decide +kernel
theorem dX9_weigh_66 : decode cX9_weigh 66 = .ok (.aload_n 0, 1) := by decide +kernel
theorem dX9_weigh_67 : decode cX9_weigh 67 = .ok (.getfield 24, 3) := by decide +kernel
theorem dX9_weigh_70 : decode cX9_weigh 70 = .ok (.iload_n 1, 1) := by decide +kernel
theorem dX9_weigh_71 : decode cX9_weigh 71 = .ok (.aload_n 0, 1) := by decide +kernel
theorem dX9_weigh_72 : decode cX9_weigh 72 = .ok (.getfield 24, 3) := by decide +kernel
theorem dX9_weigh_75 : decode cX9_weigh 75 = .ok (.iload_n 1, 1) := by decide +kernel
theorem dX9_weigh_76 : decode cX9_weigh 76 = .ok (.iaload, 1) := by decide +kernel
theorem dX9_weigh_77 : decode cX9_weigh 77 = .ok (.aload_n 0, 1) := by decide +kernel
theorem dX9_weigh_78 : decode cX9_weigh 78 = .ok (.getfield 37, 3) := by decide +kernel
theorem dX9_weigh_81 : decode cX9_weigh 81 = .ok (.iload_n 2, 1) := by decide +kernel
theorem dX9_weigh_82 : decode cX9_weigh 82 = .ok (.iload_n 1, 1) := by decide +kernel
theorem dX9_weigh_83 : decode cX9_weigh 83 = .ok (.invokevirtual 72, 3) := by decide +kernel
theorem dX9_weigh_86 : decode cX9_weigh 86 = .ok (.invokestatic 75, 3) := by decide +kernel
theorem dX9_weigh_89 : decode cX9_weigh 89 = .ok (.iastore, 1) := by decide +kernel
theorem dX9_weigh_90 : decode cX9_weigh 90 = .ok (.aload_n 0, 1) := by decide +kernel
theorem dX9_weigh_91 : decode cX9_weigh 91 = .ok (.getfield 27, 3) := by decide +kernel
theorem dX9_weigh_94 : decode cX9_weigh 94 = .ok (.iload_n 1, 1) := by decide +kernel
theorem dX9_weigh_95 : decode cX9_weigh 95 = .ok (.aload_n 0, 1) := by decide +kernel
theorem dX9_weigh_96 : decode cX9_weigh 96 = .ok (.getfield 27, 3) := by decide +kernel
theorem dX9_weigh_99 : decode cX9_weigh 99 = .ok (.iload_n 1, 1) := by decide +kernel
theorem dX9_weigh_100 : decode cX9_weigh 100 = .ok (.iaload, 1) := by decide +kernel
theorem dX9_weigh_101 : decode cX9_weigh 101 = .ok (.aload_n 0, 1) := by decide +kernel
theorem dX9_weigh_102 : decode cX9_weigh 102 = .ok (.getfield 37, 3) := by decide +kernel
theorem dX9_weigh_105 : decode cX9_weigh 105 = .ok (.iload_n 2, 1) := by decide +kernel
theorem dX9_weigh_106 : decode cX9_weigh 106 = .ok (.iload_n 1, 1) := by decide +kernel
theorem dX9_weigh_107 : decode cX9_weigh 107 = .ok (.invokevirtual 80, 3) := by decide +kernel
theorem dX9_weigh_110 : decode cX9_weigh 110 = .ok (.invokestatic 75, 3) := by decide +kernel
theorem dX9_weigh_113 : decode cX9_weigh 113 = .ok (.iastore, 1) := by decide +kernel
theorem dX9_weigh_114 : decode cX9_weigh 114 = .ok (.goto 30, 3) := by decide +kernel
theorem dX9_weigh_117 : decode cX9_weigh 117 = .ok (.aload_n 0, 1) := by decide +kernel
theorem dX9_weigh_118 : decode cX9_weigh 118 = .ok (.getfield 9, 3) := by decide +kernel
theorem dX9_weigh_121 : decode cX9_weigh 121 = .ok (.iload_n 1, 1) := by decide +kernel
theorem dX9_weigh_122 : decode cX9_weigh 122 = .ok (.iaload, 1) := by decide +kernel
theorem dX9_weigh_123 : decode cX9_weigh 123 = .ok (.iconst (-1), 1) := by decide +kernel
theorem dX9_weigh_124 : decode cX9_weigh 124 = .ok (.if_icmp .eq 13, 3) := by decide +kernel
theorem dX9_weigh_127 : decode cX9_weigh 127 = .ok (.iload_n 3, 1) := by decide +kernel
theorem dX9_weigh_128 : decode cX9_weigh 128 = .ok (.aload_n 0, 1) := by decide +kernel
theorem dX9_weigh_129 : decode cX9_weigh 129 = .ok (.getfield 9, 3) := by decide +kernel
theorem dX9_weigh_132 : decode cX9_weigh 132 = .ok (.iload_n 1, 1) := by decide +kernel
theorem dX9_weigh_133 : decode cX9_weigh 133 = .ok (.iaload, 1) := by decide +kernel
theorem dX9_weigh_134 : decode cX9_weigh 134 = .ok (.if_icmp .ge 10, 3) := by decide +kernel
theorem dX9_weigh_137 : decode cX9_weigh 137 = .ok (.aload_n 0, 1) := by decide +kernel
theorem dX9_weigh_138 : decode cX9_weigh 138 = .ok (.iload_n 1, 1) := by decide +kernel
theorem dX9_weigh_139 : decode cX9_weigh 139 = .ok (.iload_n 2, 1) := by decide +kernel
theorem dX9_weigh_140 : decode cX9_weigh 140 = .ok (.iload_n 3, 1) := by decide +kernel
theorem dX9_weigh_141 : decode cX9_weigh 141 = .ok (.invokevirtual 83, 3) := by decide +kernel
theorem dX9_weigh_144 : decode cX9_weigh 144 = .ok (.return_, 1) := by decide +kernel
def g_X9_weigh : Nat → EA := (t_n 72 (t_n 37 (t_n 16 (t_n 9 (t_n 4 (t_n 1 (t_l 0 (a_aload 1 0)) (t_l 1 (a_getf 9 0))) (t_n 5 (t_l 4 (a_iload 1 2)) (t_n 6 (t_l 5 (a_iload 1 1)) (t_l 6 (a_inv true 98 3 (some 6)))))) (t_n 11 (t_n 10 (t_l 9 (a_istore 4 1 3)) (t_l 10 (a_iload 1 3))) (t_n 12 (t_l 11 (a_push 1 (.int (-1)))) (t_n 15 (t_l 12 (a_ic 22 (fun x y => decide (x = y)))) (t_l 15 (a_iload 1 1)))))) (t_n 27 (t_n 22 (t_n 19 (t_l 16 (a_inv false 193 1 none)) (t_l 19 (a_if 23 (fun x => !decide (x = 0))))) (t_n 23 (t_l 22 a_vret) (t_n 24 (t_l 23 (a_iload 1 3)) (t_l 24 (a_if 51 (fun x => !decide (x = 0))))))) (t_n 32 (t_n 28 (t_l 27 (a_aload 1 0)) (t_n 31 (t_l 28 (a_getf 9 2)) (t_l 31 (a_iload 1 1)))) (t_n 33 (t_l 32 (a_ild 0)) (t_n 36 (t_l 33 (a_if 51 (fun x => !decide (x = 0)))) (t_l 36 (a_aload 1 0))))))) (t_n 53 (t_n 44 (t_n 41 (t_n 38 (t_l 37 a_dup) (t_l 38 (a_getf 9 9))) (t_n 42 (t_l 41 (a_push 1 (.int 1))) (t_n 43 (t_l 42 (a_iload 1 1)) (t_l 43 (a_ii 1 (fun x y => x <<< (y &&& 31))))))) (t_n 48 (t_n 45 (t_l 44 (a_ii 1 (fun x y => x ||| y))) (t_l 45 (a_putf 0 9 9))) (t_n 51 (t_l 48 (a_goto 144)) (t_n 52 (t_l 51 (a_iload 1 3)) (t_l 52 (a_push 1 (.int 1))))))) (t_n 62 (t_n 57 (t_n 56 (t_l 53 (a_ic 117 (fun x y => !decide (x = y)))) (t_l 56 (a_aload 1 0))) (t_n 60 (t_l 57 (a_getf 9 2)) (t_n 61 (t_l 60 (a_iload 1 1)) (t_l 61 (a_ild 0))))) (t_n 67 (t_n 63 (t_l 62 (a_push 1 (.int 1))) (t_n 66 (t_l 63 (a_ic 117 (fun x y => !decide (x = y)))) (t_l 66 (a_aload 1 0)))) (t_n 70 (t_l 67 (a_getf 9 6)) (t_n 71 (t_l 70 (a_iload 1 1)) (t_l 71 (a_aload 1 0)))))))) (t_n 107 (t_n 90 (t_n 81 (t_n 76 (t_n 75 (t_l 72 (a_getf 9 6)) (t_l 75 (a_iload 1 1))) (t_n 77 (t_l 76 (a_ild 0)) (t_n 78 (t_l 77 (a_aload 1 0)) (t_l 78 (a_getf 9 0))))) (t_n 83 (t_n 82 (t_l 81 (a_iload 1 2)) (t_l 82 (a_iload 1 1))) (t_n 86 (t_l 83 (a_inv true 101 3 (some 6))) (t_n 89 (t_l 86 (a_inv true 211 2 none)) (t_l 89 (a_ist 0)))))) (t_n 99 (t_n 94 (t_n 91 (t_l 90 (a_aload 1 0)) (t_l 91 (a_getf 9 7))) (t_n 95 (t_l 94 (a_iload 1 1)) (t_n 96 (t_l 95 (a_aload 1 0)) (t_l 96 (a_getf 9 7))))) (t_n 102 (t_n 100 (t_l 99 (a_iload 1 1)) (t_n 101 (t_l 100 (a_ild 0)) (t_l 101 (a_aload 1 0)))) (t_n 105 (t_l 102 (a_getf 9 0)) (t_n 106 (t_l 105 (a_iload 1 2)) (t_l 106 (a_iload 1 1))))))) (t_n 128 (t_n 118 (t_n 113 (t_n 110 (t_l 107 (a_inv true 102 3 (some 6))) (t_l 110 (a_inv true 211 2 none))) (t_n 114 (t_l 113 (a_ist 0)) (t_n 117 (t_l 114 (a_goto 144)) (t_l 117 (a_aload 1 0))))) (t_n 123 (t_n 121 (t_l 118 (a_getf 9 2)) (t_n 122 (t_l 121 (a_iload 1 1)) (t_l 122 (a_ild 0)))) (t_n 124 (t_l 123 (a_push 1 (.int (-1)))) (t_n 127 (t_l 124 (a_ic 137 (fun x y => decide (x = y)))) (t_l 127 (a_iload 1 3)))))) (t_n 137 (t_n 132 (t_n 129 (t_l 128 (a_aload 1 0)) (t_l 129 (a_getf 9 2))) (t_n 133 (t_l 132 (a_iload 1 1)) (t_n 134 (t_l 133 (a_ild 0)) (t_l 134 (a_ic 144 (fun x y => decide (y ≤ x))))))) (t_n 140 (t_n 138 (t_l 137 (a_aload 1 0)) (t_n 139 (t_l 138 (a_iload 1 1)) (t_l 139 (a_iload 1 2)))) (t_n 141 (t_l 140 (a_iload 1 3)) (t_n 144 (t_l 141 (a_inv true 139 4 (some 9))) (t_l 144 a_vret))))))))
set_option maxRecDepth 100000 in
theorem k_X9_weigh (sc : Nat × (Nat → Int32)) (d : Nat) : ∀ pc, ev_Ok cX9_weigh 4 [] RX9 lw_g lw_n (lw_q sc) vwCl false (ev_CO mt lw_g lw_n (lw_q sc) vwCl d) pc (g_X9_weigh pc) := (ok_t_n (ok_t_n (ok_t_n (ok_t_n (ok_t_n (ok_t_n (ok_t_l (ok_aload_n dX9_weigh_0 rfl)) (ok_t_l (ok_getfield dX9_weigh_1 (ci := 9) (kf := 0) rfl inGX9 (by decide) w_1161))) (ok_t_n (ok_t_l (ok_iload_n dX9_weigh_4 rfl)) (ok_t_n (ok_t_l (ok_iload_n dX9_weigh_5 rfl)) (ok_t_l (ok_inv (run_V (y := 98) (n := 2) (ci := 6) dX9_weigh_6 cz_98 gdG cc_98 ci_98 w_339 cm_98 cs_98 cd_98 cl_98 rfl rfl)))))) (ok_t_n (ok_t_n (ok_t_l (ok_istore_n dX9_weigh_9 rfl)) (ok_t_l (ok_iload_n dX9_weigh_10 rfl))) (ok_t_n (ok_t_l (ok_iconst dX9_weigh_11 rfl)) (ok_t_n (ok_t_l (ok_icmp_eq dX9_weigh_12 rfl)) (ok_t_l (ok_iload_n dX9_weigh_15 rfl)))))) (ok_t_n (ok_t_n (ok_t_n (ok_t_l (ok_inv (run_SN (y := 193) (n := 1) dX9_weigh_16 cz_193 gdG cc_193 ci_193 nst_4 cm_193 cd_193 cl_193))) (ok_t_l (ok_if_ne dX9_weigh_19 rfl))) (ok_t_n (ok_t_l (ok_vreturn dX9_weigh_22)) (ok_t_n (ok_t_l (ok_iload_n dX9_weigh_23 rfl)) (ok_t_l (ok_if_ne dX9_weigh_24 rfl))))) (ok_t_n (ok_t_n (ok_t_l (ok_aload_n dX9_weigh_27 rfl)) (ok_t_n (ok_t_l (ok_getfield dX9_weigh_28 (ci := 9) (kf := 2) rfl inGX9 (by decide) w_1163)) (ok_t_l (ok_iload_n dX9_weigh_31 rfl)))) (ok_t_n (ok_t_l (ok_iaload dX9_weigh_32)) (ok_t_n (ok_t_l (ok_if_ne dX9_weigh_33 rfl)) (ok_t_l (ok_aload_n dX9_weigh_36 rfl))))))) (ok_t_n (ok_t_n (ok_t_n (ok_t_n (ok_t_l (ok_dup dX9_weigh_37)) (ok_t_l (ok_getfield dX9_weigh_38 (ci := 9) (kf := 9) rfl inGX9 (by decide) w_1170))) (ok_t_n (ok_t_l (ok_iconst dX9_weigh_41 rfl)) (ok_t_n (ok_t_l (ok_iload_n dX9_weigh_42 rfl)) (ok_t_l (ok_ishl dX9_weigh_43))))) (ok_t_n (ok_t_n (ok_t_l (ok_ior dX9_weigh_44)) (ok_t_l (ok_putfield dX9_weigh_45 (ci := 9) (kf := 9) rfl inGX9 (by decide) tyX9_ok nmX9 rfl w_1170 rfl))) (ok_t_n (ok_t_l (ok_goto dX9_weigh_48 rfl)) (ok_t_n (ok_t_l (ok_iload_n dX9_weigh_51 rfl)) (ok_t_l (ok_iconst dX9_weigh_52 rfl)))))) (ok_t_n (ok_t_n (ok_t_n (ok_t_l (ok_icmp_ne dX9_weigh_53 rfl)) (ok_t_l (ok_aload_n dX9_weigh_56 rfl))) (ok_t_n (ok_t_l (ok_getfield dX9_weigh_57 (ci := 9) (kf := 2) rfl inGX9 (by decide) w_1163)) (ok_t_n (ok_t_l (ok_iload_n dX9_weigh_60 rfl)) (ok_t_l (ok_iaload dX9_weigh_61))))) (ok_t_n (ok_t_n (ok_t_l (ok_iconst dX9_weigh_62 rfl)) (ok_t_n (ok_t_l (ok_icmp_ne dX9_weigh_63 rfl)) (ok_t_l (ok_aload_n dX9_weigh_66 rfl)))) (ok_t_n (ok_t_l (ok_getfield dX9_weigh_67 (ci := 9) (kf := 6) rfl inGX9 (by decide) w_1167)) (ok_t_n (ok_t_l (ok_iload_n dX9_weigh_70 rfl)) (ok_t_l (ok_aload_n dX9_weigh_71 rfl)))))))) (ok_t_n (ok_t_n (ok_t_n (ok_t_n (ok_t_n (ok_t_l (ok_getfield dX9_weigh_72 (ci := 9) (kf := 6) rfl inGX9 (by decide) w_1167)) (ok_t_l (ok_iload_n dX9_weigh_75 rfl))) (ok_t_n (ok_t_l (ok_iaload dX9_weigh_76)) (ok_t_n (ok_t_l (ok_aload_n dX9_weigh_77 rfl)) (ok_t_l (ok_getfield dX9_weigh_78 (ci := 9) (kf := 0) rfl inGX9 (by decide) w_1161))))) (ok_t_n (ok_t_n (ok_t_l (ok_iload_n dX9_weigh_81 rfl)) (ok_t_l (ok_iload_n dX9_weigh_82 rfl))) (ok_t_n (ok_t_l (ok_inv (run_V (y := 101) (n := 2) (ci := 6) dX9_weigh_83 cz_101 gdG cc_101 ci_101 w_341 cm_101 cs_101 cd_101 cl_101 rfl rfl))) (ok_t_n (ok_t_l (ok_inv (run_S (y := 211) (n := 2) dX9_weigh_86 cz_211 gdG cc_211 ci_211 w_345 cm_211 cd_211 cl_211))) (ok_t_l (ok_iastore dX9_weigh_89)))))) (ok_t_n (ok_t_n (ok_t_n (ok_t_l (ok_aload_n dX9_weigh_90 rfl)) (ok_t_l (ok_getfield dX9_weigh_91 (ci := 9) (kf := 7) rfl inGX9 (by decide) w_1168))) (ok_t_n (ok_t_l (ok_iload_n dX9_weigh_94 rfl)) (ok_t_n (ok_t_l (ok_aload_n dX9_weigh_95 rfl)) (ok_t_l (ok_getfield dX9_weigh_96 (ci := 9) (kf := 7) rfl inGX9 (by decide) w_1168))))) (ok_t_n (ok_t_n (ok_t_l (ok_iload_n dX9_weigh_99 rfl)) (ok_t_n (ok_t_l (ok_iaload dX9_weigh_100)) (ok_t_l (ok_aload_n dX9_weigh_101 rfl)))) (ok_t_n (ok_t_l (ok_getfield dX9_weigh_102 (ci := 9) (kf := 0) rfl inGX9 (by decide) w_1161)) (ok_t_n (ok_t_l (ok_iload_n dX9_weigh_105 rfl)) (ok_t_l (ok_iload_n dX9_weigh_106 rfl))))))) (ok_t_n (ok_t_n (ok_t_n (ok_t_n (ok_t_l (ok_inv (run_V (y := 102) (n := 2) (ci := 6) dX9_weigh_107 cz_102 gdG cc_102 ci_102 w_348 cm_102 cs_102 cd_102 cl_102 rfl rfl))) (ok_t_l (ok_inv (run_S (y := 211) (n := 2) dX9_weigh_110 cz_211 gdG cc_211 ci_211 w_345 cm_211 cd_211 cl_211)))) (ok_t_n (ok_t_l (ok_iastore dX9_weigh_113)) (ok_t_n (ok_t_l (ok_goto dX9_weigh_114 rfl)) (ok_t_l (ok_aload_n dX9_weigh_117 rfl))))) (ok_t_n (ok_t_n (ok_t_l (ok_getfield dX9_weigh_118 (ci := 9) (kf := 2) rfl inGX9 (by decide) w_1163)) (ok_t_n (ok_t_l (ok_iload_n dX9_weigh_121 rfl)) (ok_t_l (ok_iaload dX9_weigh_122)))) (ok_t_n (ok_t_l (ok_iconst dX9_weigh_123 rfl)) (ok_t_n (ok_t_l (ok_icmp_eq dX9_weigh_124 rfl)) (ok_t_l (ok_iload_n dX9_weigh_127 rfl)))))) (ok_t_n (ok_t_n (ok_t_n (ok_t_l (ok_aload_n dX9_weigh_128 rfl)) (ok_t_l (ok_getfield dX9_weigh_129 (ci := 9) (kf := 2) rfl inGX9 (by decide) w_1163))) (ok_t_n (ok_t_l (ok_iload_n dX9_weigh_132 rfl)) (ok_t_n (ok_t_l (ok_iaload dX9_weigh_133)) (ok_t_l (ok_icmp_ge dX9_weigh_134 rfl))))) (ok_t_n (ok_t_n (ok_t_l (ok_aload_n dX9_weigh_137 rfl)) (ok_t_n (ok_t_l (ok_iload_n dX9_weigh_138 rfl)) (ok_t_l (ok_iload_n dX9_weigh_139 rfl)))) (ok_t_n (ok_t_l (ok_iload_n dX9_weigh_140 rfl)) (ok_t_n (ok_t_l (ok_inv (run_V (y := 139) (n := 3) (ci := 9) dX9_weigh_141 cz_139 gdG cc_139 ci_139 w_352 cm_139 cs_139 cd_139 cl_139 rfl rfl))) (ok_t_l (ok_vreturn dX9_weigh_144)))))))))
theorem dX9_adopt_0 : decode cX9_adopt 0 = .ok (.iload_n 1, 1) := by decide +kernel
theorem dX9_adopt_1 : decode cX9_adopt 1 = .ok (.invokestatic 68, 3) := by decide +kernel
theorem dX9_adopt_4 : decode cX9_adopt 4 = .ok (.ifCond .ne 4, 3) := by decide +kernel
theorem dX9_adopt_7 : decode cX9_adopt 7 = .ok (.return_, 1) := by decide +kernel
theorem dX9_adopt_8 : decode cX9_adopt 8 = .ok (.aload_n 0, 1) := by decide +kernel
theorem dX9_adopt_9 : decode cX9_adopt 9 = .ok (.getfield 9, 3) := by decide +kernel
theorem dX9_adopt_12 : decode cX9_adopt 12 = .ok (.iload_n 1, 1) := by decide +kernel
theorem dX9_adopt_13 : decode cX9_adopt 13 = .ok (.iload_n 3, 1) := by decide +kernel
theorem dX9_adopt_14 : decode cX9_adopt 14 = .ok (.iastore, 1) := by decide +kernel
theorem dX9_adopt_15 : decode cX9_adopt 15 = .ok (.aload_n 0, 1) := by decide +kernel
theorem dX9_adopt_16 : decode cX9_adopt 16 = .ok (.getfield 15, 3) := by decide +kernel
theorem dX9_adopt_19 : decode cX9_adopt 19 = .ok (.iload_n 1, 1) := by decide +kernel
theorem dX9_adopt_20 : decode cX9_adopt 20 = .ok (.iload_n 3, 1) := by decide +kernel
theorem dX9_adopt_21 : decode cX9_adopt 21 = .ok (.iconst 1, 1) := by decide +kernel
theorem dX9_adopt_22 : decode cX9_adopt 22 = .ok (.if_icmp .ne 7, 3) := by decide +kernel
theorem dX9_adopt_25 : decode cX9_adopt 25 = .ok (.iconst (-1), 1) := by decide +kernel
theorem dX9_adopt_26 : decode cX9_adopt 26 = .ok (.goto 4, 3) := by decide +kernel
theorem dX9_adopt_29 : decode cX9_adopt 29 = .ok (.iload_n 2, 1) := by decide +kernel
theorem dX9_adopt_30 : decode cX9_adopt 30 = .ok (.iastore, 1) := by decide +kernel
theorem dX9_adopt_31 : decode cX9_adopt 31 = .ok (.aload_n 0, 1) := by decide +kernel
theorem dX9_adopt_32 : decode cX9_adopt 32 = .ok (.getfield 18, 3) := by decide +kernel
theorem dX9_adopt_35 : decode cX9_adopt 35 = .ok (.iload_n 1, 1) := by decide +kernel
theorem dX9_adopt_36 : decode cX9_adopt 36 = .ok (.aload_n 0, 1) := by decide +kernel
theorem dX9_adopt_37 : decode cX9_adopt 37 = .ok (.getfield 37, 3) := by decide +kernel
theorem dX9_adopt_40 : decode cX9_adopt 40 = .ok (.iload_n 2, 1) := by decide +kernel
theorem dX9_adopt_41 : decode cX9_adopt 41 = .ok (.iload_n 1, 1) := by decide +kernel
theorem dX9_adopt_42 : decode cX9_adopt 42 = .ok (.invokevirtual 87, 3) := by decide +kernel
theorem dX9_adopt_45 : decode cX9_adopt 45 = .ok (.iastore, 1) := by decide +kernel
theorem dX9_adopt_46 : decode cX9_adopt 46 = .ok (.aload_n 0, 1) := by decide +kernel
theorem dX9_adopt_47 : decode cX9_adopt 47 = .ok (.getfield 21, 3) := by decide +kernel
theorem dX9_adopt_50 : decode cX9_adopt 50 = .ok (.iload_n 1, 1) := by decide +kernel
theorem dX9_adopt_51 : decode cX9_adopt 51 = .ok (.aload_n 0, 1) := by decide +kernel
theorem dX9_adopt_52 : decode cX9_adopt 52 = .ok (.getfield 37, 3) := by decide +kernel
theorem dX9_adopt_55 : decode cX9_adopt 55 = .ok (.iload_n 2, 1) := by decide +kernel
theorem dX9_adopt_56 : decode cX9_adopt 56 = .ok (.iload_n 1, 1) := by decide +kernel
theorem dX9_adopt_57 : decode cX9_adopt 57 = .ok (.invokevirtual 89, 3) := by decide +kernel
theorem dX9_adopt_60 : decode cX9_adopt 60 = .ok (.iastore, 1) := by decide +kernel
theorem dX9_adopt_61 : decode cX9_adopt 61 = .ok (.aload_n 0, 1) := by decide +kernel
theorem dX9_adopt_62 : decode cX9_adopt 62 = .ok (.getfield 24, 3) := by decide +kernel
theorem dX9_adopt_65 : decode cX9_adopt 65 = .ok (.iload_n 1, 1) := by decide +kernel
theorem dX9_adopt_66 : decode cX9_adopt 66 = .ok (.aload_n 0, 1) := by decide +kernel
theorem dX9_adopt_67 : decode cX9_adopt 67 = .ok (.getfield 37, 3) := by decide +kernel
theorem dX9_adopt_70 : decode cX9_adopt 70 = .ok (.iload_n 2, 1) := by decide +kernel
theorem dX9_adopt_71 : decode cX9_adopt 71 = .ok (.iload_n 1, 1) := by decide +kernel
theorem dX9_adopt_72 : decode cX9_adopt 72 = .ok (.invokevirtual 72, 3) := by decide +kernel
theorem dX9_adopt_75 : decode cX9_adopt 75 = .ok (.iastore, 1) := by decide +kernel
theorem dX9_adopt_76 : decode cX9_adopt 76 = .ok (.aload_n 0, 1) := by decide +kernel
theorem dX9_adopt_77 : decode cX9_adopt 77 = .ok (.getfield 27, 3) := by decide +kernel
theorem dX9_adopt_80 : decode cX9_adopt 80 = .ok (.iload_n 1, 1) := by decide +kernel
theorem dX9_adopt_81 : decode cX9_adopt 81 = .ok (.aload_n 0, 1) := by decide +kernel
theorem dX9_adopt_82 : decode cX9_adopt 82 = .ok (.getfield 37, 3) := by decide +kernel
theorem dX9_adopt_85 : decode cX9_adopt 85 = .ok (.iload_n 2, 1) := by decide +kernel
theorem dX9_adopt_86 : decode cX9_adopt 86 = .ok (.iload_n 1, 1) := by decide +kernel
theorem dX9_adopt_87 : decode cX9_adopt 87 = .ok (.invokevirtual 80, 3) := by decide +kernel
theorem dX9_adopt_90 : decode cX9_adopt 90 = .ok (.iastore, 1) := by decide +kernel
theorem dX9_adopt_91 : decode cX9_adopt 91 = .ok (.aload_n 0, 1) := by decide +kernel
theorem dX9_adopt_92 : decode cX9_adopt 92 = .ok (.getfield 37, 3) := by decide +kernel
theorem dX9_adopt_95 : decode cX9_adopt 95 = .ok (.iload_n 2, 1) := by decide +kernel
theorem dX9_adopt_96 : decode cX9_adopt 96 = .ok (.iload_n 1, 1) := by decide +kernel
theorem dX9_adopt_97 : decode cX9_adopt 97 = .ok (.invokevirtual 91, 3) := by decide +kernel
theorem dX9_adopt_100 : decode cX9_adopt 100 = .ok (.ifCond .eq 18, 3) := by decide +kernel
theorem dX9_adopt_103 : decode cX9_adopt 103 = .ok (.aload_n 0, 1) := by decide +kernel
theorem dX9_adopt_104 : decode cX9_adopt 104 = .ok (.dup, 1) := by decide +kernel
theorem dX9_adopt_105 : decode cX9_adopt 105 = .ok (.getfield 30, 3) := by decide +kernel
theorem dX9_adopt_108 : decode cX9_adopt 108 = .ok (.iconst 1, 1) := by decide +kernel
theorem dX9_adopt_109 : decode cX9_adopt 109 = .ok (.iload_n 1, 1) := by decide +kernel
theorem dX9_adopt_110 : decode cX9_adopt 110 = .ok (.ishl, 1) := by decide +kernel
theorem dX9_adopt_111 : decode cX9_adopt 111 = .ok (.ior, 1) := by decide +kernel
theorem dX9_adopt_112 : decode cX9_adopt 112 = .ok (.putfield 30, 3) := by decide +kernel
theorem dX9_adopt_115 : decode cX9_adopt 115 = .ok (.goto 17, 3) := by decide +kernel
theorem dX9_adopt_118 : decode cX9_adopt 118 = .ok (.aload_n 0, 1) := by decide +kernel
theorem dX9_adopt_119 : decode cX9_adopt 119 = .ok (.dup, 1) := by decide +kernel
theorem dX9_adopt_120 : decode cX9_adopt 120 = .ok (.getfield 30, 3) := by decide +kernel
theorem dX9_adopt_123 : decode cX9_adopt 123 = .ok (.iconst 1, 1) := by decide +kernel
theorem dX9_adopt_124 : decode cX9_adopt 124 = .ok (.iload_n 1, 1) := by decide +kernel
theorem dX9_adopt_125 : decode cX9_adopt 125 = .ok (.ishl, 1) := by decide +kernel
theorem dX9_adopt_126 : decode cX9_adopt 126 = .ok (.iconst (-1), 1) := by decide +kernel
theorem dX9_adopt_127 : decode cX9_adopt 127 = .ok (.ixor, 1) := by decide +kernel
theorem dX9_adopt_128 : decode cX9_adopt 128 = .ok (.iand, 1) := by decide +kernel
theorem dX9_adopt_129 : decode cX9_adopt 129 = .ok (.putfield 30, 3) := by decide +kernel
theorem dX9_adopt_132 : decode cX9_adopt 132 = .ok (.return_, 1) := by decide +kernel
def g_X9_adopt : Nat → EA := (t_n 66 (t_n 32 (t_n 16 (t_n 9 (t_n 4 (t_n 1 (t_l 0 (a_iload 1 1)) (t_l 1 (a_inv false 193 1 none))) (t_n 7 (t_l 4 (a_if 8 (fun x => !decide (x = 0)))) (t_n 8 (t_l 7 a_vret) (t_l 8 (a_aload 1 0))))) (t_n 13 (t_n 12 (t_l 9 (a_getf 9 2)) (t_l 12 (a_iload 1 1))) (t_n 14 (t_l 13 (a_iload 1 3)) (t_n 15 (t_l 14 (a_ist 0)) (t_l 15 (a_aload 1 0)))))) (t_n 25 (t_n 20 (t_n 19 (t_l 16 (a_getf 9 3)) (t_l 19 (a_iload 1 1))) (t_n 21 (t_l 20 (a_iload 1 3)) (t_n 22 (t_l 21 (a_push 1 (.int 1))) (t_l 22 (a_ic 29 (fun x y => !decide (x = y))))))) (t_n 29 (t_n 26 (t_l 25 (a_push 1 (.int (-1)))) (t_l 26 (a_goto 30))) (t_n 30 (t_l 29 (a_iload 1 2)) (t_n 31 (t_l 30 (a_ist 0)) (t_l 31 (a_aload 1 0))))))) (t_n 50 (t_n 41 (t_n 36 (t_n 35 (t_l 32 (a_getf 9 4)) (t_l 35 (a_iload 1 1))) (t_n 37 (t_l 36 (a_aload 1 0)) (t_n 40 (t_l 37 (a_getf 9 0)) (t_l 40 (a_iload 1 2))))) (t_n 45 (t_n 42 (t_l 41 (a_iload 1 1)) (t_l 42 (a_inv true 99 3 (some 6)))) (t_n 46 (t_l 45 (a_ist 0)) (t_n 47 (t_l 46 (a_aload 1 0)) (t_l 47 (a_getf 9 5)))))) (t_n 57 (t_n 52 (t_n 51 (t_l 50 (a_iload 1 1)) (t_l 51 (a_aload 1 0))) (t_n 55 (t_l 52 (a_getf 9 0)) (t_n 56 (t_l 55 (a_iload 1 2)) (t_l 56 (a_iload 1 1))))) (t_n 61 (t_n 60 (t_l 57 (a_inv true 100 3 (some 6))) (t_l 60 (a_ist 0))) (t_n 62 (t_l 61 (a_aload 1 0)) (t_n 65 (t_l 62 (a_getf 9 6)) (t_l 65 (a_iload 1 1)))))))) (t_n 100 (t_n 82 (t_n 75 (t_n 70 (t_n 67 (t_l 66 (a_aload 1 0)) (t_l 67 (a_getf 9 0))) (t_n 71 (t_l 70 (a_iload 1 2)) (t_n 72 (t_l 71 (a_iload 1 1)) (t_l 72 (a_inv true 101 3 (some 6)))))) (t_n 77 (t_n 76 (t_l 75 (a_ist 0)) (t_l 76 (a_aload 1 0))) (t_n 80 (t_l 77 (a_getf 9 7)) (t_n 81 (t_l 80 (a_iload 1 1)) (t_l 81 (a_aload 1 0)))))) (t_n 91 (t_n 86 (t_n 85 (t_l 82 (a_getf 9 0)) (t_l 85 (a_iload 1 2))) (t_n 87 (t_l 86 (a_iload 1 1)) (t_n 90 (t_l 87 (a_inv true 102 3 (some 6))) (t_l 90 (a_ist 0))))) (t_n 95 (t_n 92 (t_l 91 (a_aload 1 0)) (t_l 92 (a_getf 9 0))) (t_n 96 (t_l 95 (a_iload 1 2)) (t_n 97 (t_l 96 (a_iload 1 1)) (t_l 97 (a_inv true 103 3 (some 6)))))))) (t_n 118 (t_n 109 (t_n 104 (t_n 103 (t_l 100 (a_if 118 (fun x => decide (x = 0)))) (t_l 103 (a_aload 1 0))) (t_n 105 (t_l 104 a_dup) (t_n 108 (t_l 105 (a_getf 9 8)) (t_l 108 (a_push 1 (.int 1)))))) (t_n 111 (t_n 110 (t_l 109 (a_iload 1 1)) (t_l 110 (a_ii 1 (fun x y => x <<< (y &&& 31))))) (t_n 112 (t_l 111 (a_ii 1 (fun x y => x ||| y))) (t_n 115 (t_l 112 (a_putf 0 9 8)) (t_l 115 (a_goto 132)))))) (t_n 125 (t_n 120 (t_n 119 (t_l 118 (a_aload 1 0)) (t_l 119 a_dup)) (t_n 123 (t_l 120 (a_getf 9 8)) (t_n 124 (t_l 123 (a_push 1 (.int 1))) (t_l 124 (a_iload 1 1))))) (t_n 128 (t_n 126 (t_l 125 (a_ii 1 (fun x y => x <<< (y &&& 31)))) (t_n 127 (t_l 126 (a_push 1 (.int (-1)))) (t_l 127 (a_ii 1 (fun x y => x ^^^ y))))) (t_n 129 (t_l 128 (a_ii 1 (fun x y => x &&& y))) (t_n 132 (t_l 129 (a_putf 0 9 8)) (t_l 132 a_vret))))))))
set_option maxRecDepth 100000 in
theorem k_X9_adopt (sc : Nat × (Nat → Int32)) (d : Nat) : ∀ pc, ev_Ok cX9_adopt 4 [] RX9 lw_g lw_n (lw_q sc) vwCl false (ev_CO mt lw_g lw_n (lw_q sc) vwCl d) pc (g_X9_adopt pc) := (ok_t_n (ok_t_n (ok_t_n (ok_t_n (ok_t_n (ok_t_n (ok_t_l (ok_iload_n dX9_adopt_0 rfl)) (ok_t_l (ok_inv (run_SN (y := 193) (n := 1) dX9_adopt_1 cz_193 gdG cc_193 ci_193 nst_4 cm_193 cd_193 cl_193)))) (ok_t_n (ok_t_l (ok_if_ne dX9_adopt_4 rfl)) (ok_t_n (ok_t_l (ok_vreturn dX9_adopt_7)) (ok_t_l (ok_aload_n dX9_adopt_8 rfl))))) (ok_t_n (ok_t_n (ok_t_l (ok_getfield dX9_adopt_9 (ci := 9) (kf := 2) rfl inGX9 (by decide) w_1163)) (ok_t_l (ok_iload_n dX9_adopt_12 rfl))) (ok_t_n (ok_t_l (ok_iload_n dX9_adopt_13 rfl)) (ok_t_n (ok_t_l (ok_iastore dX9_adopt_14)) (ok_t_l (ok_aload_n dX9_adopt_15 rfl)))))) (ok_t_n (ok_t_n (ok_t_n (ok_t_l (ok_getfield dX9_adopt_16 (ci := 9) (kf := 3) rfl inGX9 (by decide) w_1164)) (ok_t_l (ok_iload_n dX9_adopt_19 rfl))) (ok_t_n (ok_t_l (ok_iload_n dX9_adopt_20 rfl)) (ok_t_n (ok_t_l (ok_iconst dX9_adopt_21 rfl)) (ok_t_l (ok_icmp_ne dX9_adopt_22 rfl))))) (ok_t_n (ok_t_n (ok_t_l (ok_iconst dX9_adopt_25 rfl)) (ok_t_l (ok_goto dX9_adopt_26 rfl))) (ok_t_n (ok_t_l (ok_iload_n dX9_adopt_29 rfl)) (ok_t_n (ok_t_l (ok_iastore dX9_adopt_30)) (ok_t_l (ok_aload_n dX9_adopt_31 rfl))))))) (ok_t_n (ok_t_n (ok_t_n (ok_t_n (ok_t_l (ok_getfield dX9_adopt_32 (ci := 9) (kf := 4) rfl inGX9 (by decide) w_1165)) (ok_t_l (ok_iload_n dX9_adopt_35 rfl))) (ok_t_n (ok_t_l (ok_aload_n dX9_adopt_36 rfl)) (ok_t_n (ok_t_l (ok_getfield dX9_adopt_37 (ci := 9) (kf := 0) rfl inGX9 (by decide) w_1161)) (ok_t_l (ok_iload_n dX9_adopt_40 rfl))))) (ok_t_n (ok_t_n (ok_t_l (ok_iload_n dX9_adopt_41 rfl)) (ok_t_l (ok_inv (run_V (y := 99) (n := 2) (ci := 6) dX9_adopt_42 cz_99 gdG cc_99 ci_99 w_356 cm_99 cs_99 cd_99 cl_99 rfl rfl)))) (ok_t_n (ok_t_l (ok_iastore dX9_adopt_45)) (ok_t_n (ok_t_l (ok_aload_n dX9_adopt_46 rfl)) (ok_t_l (ok_getfield dX9_adopt_47 (ci := 9) (kf := 5) rfl inGX9 (by decide) w_1166)))))) (ok_t_n (ok_t_n (ok_t_n (ok_t_l (ok_iload_n dX9_adopt_50 rfl)) (ok_t_l (ok_aload_n dX9_adopt_51 rfl))) (ok_t_n (ok_t_l (ok_getfield dX9_adopt_52 (ci := 9) (kf := 0) rfl inGX9 (by decide) w_1161)) (ok_t_n (ok_t_l (ok_iload_n dX9_adopt_55 rfl)) (ok_t_l (ok_iload_n dX9_adopt_56 rfl))))) (ok_t_n (ok_t_n (ok_t_l (ok_inv (run_V (y := 100) (n := 2) (ci := 6) dX9_adopt_57 cz_100 gdG cc_100 ci_100 w_360 cm_100 cs_100 cd_100 cl_100 rfl rfl))) (ok_t_l (ok_iastore dX9_adopt_60))) (ok_t_n (ok_t_l (ok_aload_n dX9_adopt_61 rfl)) (ok_t_n (ok_t_l (ok_getfield dX9_adopt_62 (ci := 9) (kf := 6) rfl inGX9 (by decide) w_1167)) (ok_t_l (ok_iload_n dX9_adopt_65 rfl)))))))) (ok_t_n (ok_t_n (ok_t_n (ok_t_n (ok_t_n (ok_t_l (ok_aload_n dX9_adopt_66 rfl)) (ok_t_l (ok_getfield dX9_adopt_67 (ci := 9) (kf := 0) rfl inGX9 (by decide) w_1161))) (ok_t_n (ok_t_l (ok_iload_n dX9_adopt_70 rfl)) (ok_t_n (ok_t_l (ok_iload_n dX9_adopt_71 rfl)) (ok_t_l (ok_inv (run_V (y := 101) (n := 2) (ci := 6) dX9_adopt_72 cz_101 gdG cc_101 ci_101 w_341 cm_101 cs_101 cd_101 cl_101 rfl rfl)))))) (ok_t_n (ok_t_n (ok_t_l (ok_iastore dX9_adopt_75)) (ok_t_l (ok_aload_n dX9_adopt_76 rfl))) (ok_t_n (ok_t_l (ok_getfield dX9_adopt_77 (ci := 9) (kf := 7) rfl inGX9 (by decide) w_1168)) (ok_t_n (ok_t_l (ok_iload_n dX9_adopt_80 rfl)) (ok_t_l (ok_aload_n dX9_adopt_81 rfl)))))) (ok_t_n (ok_t_n (ok_t_n (ok_t_l (ok_getfield dX9_adopt_82 (ci := 9) (kf := 0) rfl inGX9 (by decide) w_1161)) (ok_t_l (ok_iload_n dX9_adopt_85 rfl))) (ok_t_n (ok_t_l (ok_iload_n dX9_adopt_86 rfl)) (ok_t_n (ok_t_l (ok_inv (run_V (y := 102) (n := 2) (ci := 6) dX9_adopt_87 cz_102 gdG cc_102 ci_102 w_348 cm_102 cs_102 cd_102 cl_102 rfl rfl))) (ok_t_l (ok_iastore dX9_adopt_90))))) (ok_t_n (ok_t_n (ok_t_l (ok_aload_n dX9_adopt_91 rfl)) (ok_t_l (ok_getfield dX9_adopt_92 (ci := 9) (kf := 0) rfl inGX9 (by decide) w_1161))) (ok_t_n (ok_t_l (ok_iload_n dX9_adopt_95 rfl)) (ok_t_n (ok_t_l (ok_iload_n dX9_adopt_96 rfl)) (ok_t_l (ok_inv (run_V (y := 103) (n := 2) (ci := 6) dX9_adopt_97 cz_103 gdG cc_103 ci_103 w_364 cm_103 cs_103 cd_103 cl_103 rfl rfl)))))))) (ok_t_n (ok_t_n (ok_t_n (ok_t_n (ok_t_l (ok_if_eq dX9_adopt_100 rfl)) (ok_t_l (ok_aload_n dX9_adopt_103 rfl))) (ok_t_n (ok_t_l (ok_dup dX9_adopt_104)) (ok_t_n (ok_t_l (ok_getfield dX9_adopt_105 (ci := 9) (kf := 8) rfl inGX9 (by decide) w_1169)) (ok_t_l (ok_iconst dX9_adopt_108 rfl))))) (ok_t_n (ok_t_n (ok_t_l (ok_iload_n dX9_adopt_109 rfl)) (ok_t_l (ok_ishl dX9_adopt_110))) (ok_t_n (ok_t_l (ok_ior dX9_adopt_111)) (ok_t_n (ok_t_l (ok_putfield dX9_adopt_112 (ci := 9) (kf := 8) rfl inGX9 (by decide) tyX9_ok nmX9 rfl w_1169 rfl)) (ok_t_l (ok_goto dX9_adopt_115 rfl)))))) (ok_t_n (ok_t_n (ok_t_n (ok_t_l (ok_aload_n dX9_adopt_118 rfl)) (ok_t_l (ok_dup dX9_adopt_119))) (ok_t_n (ok_t_l (ok_getfield dX9_adopt_120 (ci := 9) (kf := 8) rfl inGX9 (by decide) w_1169)) (ok_t_n (ok_t_l (ok_iconst dX9_adopt_123 rfl)) (ok_t_l (ok_iload_n dX9_adopt_124 rfl))))) (ok_t_n (ok_t_n (ok_t_l (ok_ishl dX9_adopt_125)) (ok_t_n (ok_t_l (ok_iconst dX9_adopt_126 rfl)) (ok_t_l (ok_ixor dX9_adopt_127)))) (ok_t_n (ok_t_l (ok_iand dX9_adopt_128)) (ok_t_n (ok_t_l (ok_putfield dX9_adopt_129 (ci := 9) (kf := 8) rfl inGX9 (by decide) tyX9_ok nmX9 rfl w_1169 rfl)) (ok_t_l (ok_vreturn dX9_adopt_132)))))))))
theorem dX9_kind_0 : decode cX9_kind 0 = .ok (.iload_n 1, 1) := by decide +kernel
theorem dX9_kind_1 : decode cX9_kind 1 = .ok (.invokestatic 68, 3) := by decide +kernel
theorem dX9_kind_4 : decode cX9_kind 4 = .ok (.ifCond .eq 12, 3) := by decide +kernel
theorem dX9_kind_7 : decode cX9_kind 7 = .ok (.aload_n 0, 1) := by decide +kernel
theorem dX9_kind_8 : decode cX9_kind 8 = .ok (.getfield 9, 3) := by decide +kernel
theorem dX9_kind_11 : decode cX9_kind 11 = .ok (.iload_n 1, 1) := by decide +kernel
theorem dX9_kind_12 : decode cX9_kind 12 = .ok (.iaload, 1) := by decide +kernel
theorem dX9_kind_13 : decode cX9_kind 13 = .ok (.goto 4, 3) := by decide +kernel
theorem dX9_kind_16 : decode cX9_kind 16 = .ok (.iconst (-1), 1) := by decide +kernel
theorem dX9_kind_17 : decode cX9_kind 17 = .ok (.ireturn, 1) := by decide +kernel
def g_X9_kind : Nat → EA := (t_n 11 (t_n 4 (t_n 1 (t_l 0 (a_iload 1 1)) (t_l 1 (a_inv false 193 1 none))) (t_n 7 (t_l 4 (a_if 16 (fun x => decide (x = 0)))) (t_n 8 (t_l 7 (a_aload 1 0)) (t_l 8 (a_getf 9 2))))) (t_n 13 (t_n 12 (t_l 11 (a_iload 1 1)) (t_l 12 (a_ild 0))) (t_n 16 (t_l 13 (a_goto 17)) (t_n 17 (t_l 16 (a_push 1 (.int (-1)))) (t_l 17 a_iret)))))
set_option maxRecDepth 100000 in
theorem k_X9_kind (sc : Nat × (Nat → Int32)) (d : Nat) : ∀ pc, ev_Ok cX9_kind 2 [] RX9 lw_g lw_n (lw_q sc) vwCl false (ev_CO mt lw_g lw_n (lw_q sc) vwCl d) pc (g_X9_kind pc) := (ok_t_n (ok_t_n (ok_t_n (ok_t_l (ok_iload_n dX9_kind_0 rfl)) (ok_t_l (ok_inv (run_SN (y := 193) (n := 1) dX9_kind_1 cz_193 gdG cc_193 ci_193 nst_4 cm_193 cd_193 cl_193)))) (ok_t_n (ok_t_l (ok_if_eq dX9_kind_4 rfl)) (ok_t_n (ok_t_l (ok_aload_n dX9_kind_7 rfl)) (ok_t_l (ok_getfield dX9_kind_8 (ci := 9) (kf := 2) rfl inGX9 (by decide) w_1163))))) (ok_t_n (ok_t_n (ok_t_l (ok_iload_n dX9_kind_11 rfl)) (ok_t_l (ok_iaload dX9_kind_12))) (ok_t_n (ok_t_l (ok_goto dX9_kind_13 rfl)) (ok_t_n (ok_t_l (ok_iconst dX9_kind_16 rfl)) (ok_t_l (ok_ireturn dX9_kind_17))))))
theorem dX9_objectOf_0 : decode cX9_objectOf 0 = .ok (.iload_n 1, 1) := by decide +kernel
theorem dX9_objectOf_1 : decode cX9_objectOf 1 = .ok (.invokestatic 68, 3) := by decide +kernel
theorem dX9_objectOf_4 : decode cX9_objectOf 4 = .ok (.ifCond .eq 12, 3) := by decide +kernel
theorem dX9_objectOf_7 : decode cX9_objectOf 7 = .ok (.aload_n 0, 1) := by decide +kernel
theorem dX9_objectOf_8 : decode cX9_objectOf 8 = .ok (.getfield 15, 3) := by decide +kernel
theorem dX9_objectOf_11 : decode cX9_objectOf 11 = .ok (.iload_n 1, 1) := by decide +kernel
theorem dX9_objectOf_12 : decode cX9_objectOf 12 = .ok (.iaload, 1) := by decide +kernel
theorem dX9_objectOf_13 : decode cX9_objectOf 13 = .ok (.goto 4, 3) := by decide +kernel
theorem dX9_objectOf_16 : decode cX9_objectOf 16 = .ok (.iconst (-1), 1) := by decide +kernel
theorem dX9_objectOf_17 : decode cX9_objectOf 17 = .ok (.ireturn, 1) := by decide +kernel
def g_X9_objectOf : Nat → EA := (t_n 11 (t_n 4 (t_n 1 (t_l 0 (a_iload 1 1)) (t_l 1 (a_inv false 193 1 none))) (t_n 7 (t_l 4 (a_if 16 (fun x => decide (x = 0)))) (t_n 8 (t_l 7 (a_aload 1 0)) (t_l 8 (a_getf 9 3))))) (t_n 13 (t_n 12 (t_l 11 (a_iload 1 1)) (t_l 12 (a_ild 0))) (t_n 16 (t_l 13 (a_goto 17)) (t_n 17 (t_l 16 (a_push 1 (.int (-1)))) (t_l 17 a_iret)))))
set_option maxRecDepth 100000 in
theorem k_X9_objectOf (sc : Nat × (Nat → Int32)) (d : Nat) : ∀ pc, ev_Ok cX9_objectOf 2 [] RX9 lw_g lw_n (lw_q sc) vwCl false (ev_CO mt lw_g lw_n (lw_q sc) vwCl d) pc (g_X9_objectOf pc) := (ok_t_n (ok_t_n (ok_t_n (ok_t_l (ok_iload_n dX9_objectOf_0 rfl)) (ok_t_l (ok_inv (run_SN (y := 193) (n := 1) dX9_objectOf_1 cz_193 gdG cc_193 ci_193 nst_4 cm_193 cd_193 cl_193)))) (ok_t_n (ok_t_l (ok_if_eq dX9_objectOf_4 rfl)) (ok_t_n (ok_t_l (ok_aload_n dX9_objectOf_7 rfl)) (ok_t_l (ok_getfield dX9_objectOf_8 (ci := 9) (kf := 3) rfl inGX9 (by decide) w_1164))))) (ok_t_n (ok_t_n (ok_t_l (ok_iload_n dX9_objectOf_11 rfl)) (ok_t_l (ok_iaload dX9_objectOf_12))) (ok_t_n (ok_t_l (ok_goto dX9_objectOf_13 rfl)) (ok_t_n (ok_t_l (ok_iconst dX9_objectOf_16 rfl)) (ok_t_l (ok_ireturn dX9_objectOf_17))))))
theorem dX9_sectionOf_0 : decode cX9_sectionOf 0 = .ok (.iload_n 1, 1) := by decide +kernel
theorem dX9_sectionOf_1 : decode cX9_sectionOf 1 = .ok (.invokestatic 68, 3) := by decide +kernel
theorem dX9_sectionOf_4 : decode cX9_sectionOf 4 = .ok (.ifCond .eq 12, 3) := by decide +kernel
theorem dX9_sectionOf_7 : decode cX9_sectionOf 7 = .ok (.aload_n 0, 1) := by decide +kernel
theorem dX9_sectionOf_8 : decode cX9_sectionOf 8 = .ok (.getfield 18, 3) := by decide +kernel
theorem dX9_sectionOf_11 : decode cX9_sectionOf 11 = .ok (.iload_n 1, 1) := by decide +kernel
theorem dX9_sectionOf_12 : decode cX9_sectionOf 12 = .ok (.iaload, 1) := by decide +kernel
theorem dX9_sectionOf_13 : decode cX9_sectionOf 13 = .ok (.goto 4, 3) := by decide +kernel
theorem dX9_sectionOf_16 : decode cX9_sectionOf 16 = .ok (.iconst (-1), 1) := by decide +kernel
theorem dX9_sectionOf_17 : decode cX9_sectionOf 17 = .ok (.ireturn, 1) := by decide +kernel
def g_X9_sectionOf : Nat → EA := (t_n 11 (t_n 4 (t_n 1 (t_l 0 (a_iload 1 1)) (t_l 1 (a_inv false 193 1 none))) (t_n 7 (t_l 4 (a_if 16 (fun x => decide (x = 0)))) (t_n 8 (t_l 7 (a_aload 1 0)) (t_l 8 (a_getf 9 4))))) (t_n 13 (t_n 12 (t_l 11 (a_iload 1 1)) (t_l 12 (a_ild 0))) (t_n 16 (t_l 13 (a_goto 17)) (t_n 17 (t_l 16 (a_push 1 (.int (-1)))) (t_l 17 a_iret)))))
set_option maxRecDepth 100000 in
theorem k_X9_sectionOf (sc : Nat × (Nat → Int32)) (d : Nat) : ∀ pc, ev_Ok cX9_sectionOf 2 [] RX9 lw_g lw_n (lw_q sc) vwCl false (ev_CO mt lw_g lw_n (lw_q sc) vwCl d) pc (g_X9_sectionOf pc) := (ok_t_n (ok_t_n (ok_t_n (ok_t_l (ok_iload_n dX9_sectionOf_0 rfl)) (ok_t_l (ok_inv (run_SN (y := 193) (n := 1) dX9_sectionOf_1 cz_193 gdG cc_193 ci_193 nst_4 cm_193 cd_193 cl_193)))) (ok_t_n (ok_t_l (ok_if_eq dX9_sectionOf_4 rfl)) (ok_t_n (ok_t_l (ok_aload_n dX9_sectionOf_7 rfl)) (ok_t_l (ok_getfield dX9_sectionOf_8 (ci := 9) (kf := 4) rfl inGX9 (by decide) w_1165))))) (ok_t_n (ok_t_n (ok_t_l (ok_iload_n dX9_sectionOf_11 rfl)) (ok_t_l (ok_iaload dX9_sectionOf_12))) (ok_t_n (ok_t_l (ok_goto dX9_sectionOf_13 rfl)) (ok_t_n (ok_t_l (ok_iconst dX9_sectionOf_16 rfl)) (ok_t_l (ok_ireturn dX9_sectionOf_17))))))
theorem dX9_placeOf_0 : decode cX9_placeOf 0 = .ok (.iload_n 1, 1) := by decide +kernel
theorem dX9_placeOf_1 : decode cX9_placeOf 1 = .ok (.invokestatic 68, 3) := by decide +kernel
theorem dX9_placeOf_4 : decode cX9_placeOf 4 = .ok (.ifCond .eq 12, 3) := by decide +kernel
theorem dX9_placeOf_7 : decode cX9_placeOf 7 = .ok (.aload_n 0, 1) := by decide +kernel
theorem dX9_placeOf_8 : decode cX9_placeOf 8 = .ok (.getfield 21, 3) := by decide +kernel
theorem dX9_placeOf_11 : decode cX9_placeOf 11 = .ok (.iload_n 1, 1) := by decide +kernel
theorem dX9_placeOf_12 : decode cX9_placeOf 12 = .ok (.iaload, 1) := by decide +kernel
theorem dX9_placeOf_13 : decode cX9_placeOf 13 = .ok (.goto 4, 3) := by decide +kernel
theorem dX9_placeOf_16 : decode cX9_placeOf 16 = .ok (.iconst (-1), 1) := by decide +kernel
theorem dX9_placeOf_17 : decode cX9_placeOf 17 = .ok (.ireturn, 1) := by decide +kernel
def g_X9_placeOf : Nat → EA := (t_n 11 (t_n 4 (t_n 1 (t_l 0 (a_iload 1 1)) (t_l 1 (a_inv false 193 1 none))) (t_n 7 (t_l 4 (a_if 16 (fun x => decide (x = 0)))) (t_n 8 (t_l 7 (a_aload 1 0)) (t_l 8 (a_getf 9 5))))) (t_n 13 (t_n 12 (t_l 11 (a_iload 1 1)) (t_l 12 (a_ild 0))) (t_n 16 (t_l 13 (a_goto 17)) (t_n 17 (t_l 16 (a_push 1 (.int (-1)))) (t_l 17 a_iret)))))
set_option maxRecDepth 100000 in
theorem k_X9_placeOf (sc : Nat × (Nat → Int32)) (d : Nat) : ∀ pc, ev_Ok cX9_placeOf 2 [] RX9 lw_g lw_n (lw_q sc) vwCl false (ev_CO mt lw_g lw_n (lw_q sc) vwCl d) pc (g_X9_placeOf pc) := (ok_t_n (ok_t_n (ok_t_n (ok_t_l (ok_iload_n dX9_placeOf_0 rfl)) (ok_t_l (ok_inv (run_SN (y := 193) (n := 1) dX9_placeOf_1 cz_193 gdG cc_193 ci_193 nst_4 cm_193 cd_193 cl_193)))) (ok_t_n (ok_t_l (ok_if_eq dX9_placeOf_4 rfl)) (ok_t_n (ok_t_l (ok_aload_n dX9_placeOf_7 rfl)) (ok_t_l (ok_getfield dX9_placeOf_8 (ci := 9) (kf := 5) rfl inGX9 (by decide) w_1166))))) (ok_t_n (ok_t_n (ok_t_l (ok_iload_n dX9_placeOf_11 rfl)) (ok_t_l (ok_iaload dX9_placeOf_12))) (ok_t_n (ok_t_l (ok_goto dX9_placeOf_13 rfl)) (ok_t_n (ok_t_l (ok_iconst dX9_placeOf_16 rfl)) (ok_t_l (ok_ireturn dX9_placeOf_17))))))
theorem dX9_isHidden_0 : decode cX9_isHidden 0 = .ok (.iload_n 1, 1) := by decide +kernel
theorem dX9_isHidden_1 : decode cX9_isHidden 1 = .ok (.invokestatic 68, 3) := by decide +kernel
theorem dX9_isHidden_4 : decode cX9_isHidden 4 = .ok (.ifCond .eq 18, 3) := by decide +kernel
theorem dX9_isHidden_7 : decode cX9_isHidden 7 = .ok (.aload_n 0, 1) := by decide +kernel
theorem dX9_isHidden_8 : decode cX9_isHidden 8 = .ok (.getfield 30, 3) := by decide +kernel
theorem dX9_isHidden_11 : decode cX9_isHidden 11 = .ok (.iload_n 1, 1) := by decide +kernel
theorem dX9_isHidden_12 : decode cX9_isHidden 12 = .ok (.invokestatic 95, 3) := by decide +kernel
theorem dX9_isHidden_15 : decode cX9_isHidden 15 = .ok (.ifCond .eq 7, 3) := by decide +kernel
theorem dX9_isHidden_18 : decode cX9_isHidden 18 = .ok (.iconst 1, 1) := by decide +kernel
theorem dX9_isHidden_19 : decode cX9_isHidden 19 = .ok (.goto 4, 3) := by decide +kernel
theorem dX9_isHidden_22 : decode cX9_isHidden 22 = .ok (.iconst 0, 1) := by decide +kernel
theorem dX9_isHidden_23 : decode cX9_isHidden 23 = .ok (.ireturn, 1) := by decide +kernel
def g_X9_isHidden : Nat → EA := (t_n 12 (t_n 7 (t_n 1 (t_l 0 (a_iload 1 1)) (t_n 4 (t_l 1 (a_inv false 193 1 none)) (t_l 4 (a_if 22 (fun x => decide (x = 0)))))) (t_n 8 (t_l 7 (a_aload 1 0)) (t_n 11 (t_l 8 (a_getf 9 8)) (t_l 11 (a_iload 1 1))))) (t_n 19 (t_n 15 (t_l 12 (a_inv false 196 2 none)) (t_n 18 (t_l 15 (a_if 22 (fun x => decide (x = 0)))) (t_l 18 (a_push 1 (.int 1))))) (t_n 22 (t_l 19 (a_goto 23)) (t_n 23 (t_l 22 (a_push 1 (.int 0))) (t_l 23 a_iret)))))
set_option maxRecDepth 100000 in
theorem k_X9_isHidden (sc : Nat × (Nat → Int32)) (d : Nat) : ∀ pc, ev_Ok cX9_isHidden 2 [] RX9 lw_g lw_n (lw_q sc) vwCl false (ev_CO mt lw_g lw_n (lw_q sc) vwCl d) pc (g_X9_isHidden pc) := (ok_t_n (ok_t_n (ok_t_n (ok_t_l (ok_iload_n dX9_isHidden_0 rfl)) (ok_t_n (ok_t_l (ok_inv (run_SN (y := 193) (n := 1) dX9_isHidden_1 cz_193 gdG cc_193 ci_193 nst_4 cm_193 cd_193 cl_193))) (ok_t_l (ok_if_eq dX9_isHidden_4 rfl)))) (ok_t_n (ok_t_l (ok_aload_n dX9_isHidden_7 rfl)) (ok_t_n (ok_t_l (ok_getfield dX9_isHidden_8 (ci := 9) (kf := 8) rfl inGX9 (by decide) w_1169)) (ok_t_l (ok_iload_n dX9_isHidden_11 rfl))))) (ok_t_n (ok_t_n (ok_t_l (ok_inv (run_SN (y := 196) (n := 2) dX9_isHidden_12 cz_196 gdG cc_196 ci_196 nst_8 cm_196 cd_196 cl_196))) (ok_t_n (ok_t_l (ok_if_eq dX9_isHidden_15 rfl)) (ok_t_l (ok_iconst dX9_isHidden_18 rfl)))) (ok_t_n (ok_t_l (ok_goto dX9_isHidden_19 rfl)) (ok_t_n (ok_t_l (ok_iconst dX9_isHidden_22 rfl)) (ok_t_l (ok_ireturn dX9_isHidden_23))))))
theorem dX9_size_0 : decode cX9_size 0 = .ok (.iload_n 1, 1) := by decide +kernel
theorem dX9_size_1 : decode cX9_size 1 = .ok (.invokestatic 68, 3) := by decide +kernel
theorem dX9_size_4 : decode cX9_size 4 = .ok (.ifCond .eq 12, 3) := by decide +kernel
theorem dX9_size_7 : decode cX9_size 7 = .ok (.aload_n 0, 1) := by decide +kernel
theorem dX9_size_8 : decode cX9_size 8 = .ok (.getfield 24, 3) := by decide +kernel
theorem dX9_size_11 : decode cX9_size 11 = .ok (.iload_n 1, 1) := by decide +kernel
theorem dX9_size_12 : decode cX9_size 12 = .ok (.iaload, 1) := by decide +kernel
theorem dX9_size_13 : decode cX9_size 13 = .ok (.goto 4, 3) := by decide +kernel
theorem dX9_size_16 : decode cX9_size 16 = .ok (.iconst 0, 1) := by decide +kernel
theorem dX9_size_17 : decode cX9_size 17 = .ok (.ireturn, 1) := by decide +kernel
def g_X9_size : Nat → EA := (t_n 11 (t_n 4 (t_n 1 (t_l 0 (a_iload 1 1)) (t_l 1 (a_inv false 193 1 none))) (t_n 7 (t_l 4 (a_if 16 (fun x => decide (x = 0)))) (t_n 8 (t_l 7 (a_aload 1 0)) (t_l 8 (a_getf 9 6))))) (t_n 13 (t_n 12 (t_l 11 (a_iload 1 1)) (t_l 12 (a_ild 0))) (t_n 16 (t_l 13 (a_goto 17)) (t_n 17 (t_l 16 (a_push 1 (.int 0))) (t_l 17 a_iret)))))
set_option maxRecDepth 100000 in
theorem k_X9_size (sc : Nat × (Nat → Int32)) (d : Nat) : ∀ pc, ev_Ok cX9_size 2 [] RX9 lw_g lw_n (lw_q sc) vwCl false (ev_CO mt lw_g lw_n (lw_q sc) vwCl d) pc (g_X9_size pc) := (ok_t_n (ok_t_n (ok_t_n (ok_t_l (ok_iload_n dX9_size_0 rfl)) (ok_t_l (ok_inv (run_SN (y := 193) (n := 1) dX9_size_1 cz_193 gdG cc_193 ci_193 nst_4 cm_193 cd_193 cl_193)))) (ok_t_n (ok_t_l (ok_if_eq dX9_size_4 rfl)) (ok_t_n (ok_t_l (ok_aload_n dX9_size_7 rfl)) (ok_t_l (ok_getfield dX9_size_8 (ci := 9) (kf := 6) rfl inGX9 (by decide) w_1167))))) (ok_t_n (ok_t_n (ok_t_l (ok_iload_n dX9_size_11 rfl)) (ok_t_l (ok_iaload dX9_size_12))) (ok_t_n (ok_t_l (ok_goto dX9_size_13 rfl)) (ok_t_n (ok_t_l (ok_iconst dX9_size_16 rfl)) (ok_t_l (ok_ireturn dX9_size_17))))))
theorem dX9_align_0 : decode cX9_align 0 = .ok (.iload_n 1, 1) := by decide +kernel
theorem dX9_align_1 : decode cX9_align 1 = .ok (.invokestatic 68, 3) := by decide +kernel
theorem dX9_align_4 : decode cX9_align 4 = .ok (.ifCond .eq 12, 3) := by decide +kernel
theorem dX9_align_7 : decode cX9_align 7 = .ok (.aload_n 0, 1) := by decide +kernel
theorem dX9_align_8 : decode cX9_align 8 = .ok (.getfield 27, 3) := by decide +kernel
theorem dX9_align_11 : decode cX9_align 11 = .ok (.iload_n 1, 1) := by decide +kernel
theorem dX9_align_12 : decode cX9_align 12 = .ok (.iaload, 1) := by decide +kernel
theorem dX9_align_13 : decode cX9_align 13 = .ok (.goto 4, 3) := by decide +kernel
theorem dX9_align_16 : decode cX9_align 16 = .ok (.iconst 1, 1) := by decide +kernel
theorem dX9_align_17 : decode cX9_align 17 = .ok (.ireturn, 1) := by decide +kernel
def g_X9_align : Nat → EA := (t_n 11 (t_n 4 (t_n 1 (t_l 0 (a_iload 1 1)) (t_l 1 (a_inv false 193 1 none))) (t_n 7 (t_l 4 (a_if 16 (fun x => decide (x = 0)))) (t_n 8 (t_l 7 (a_aload 1 0)) (t_l 8 (a_getf 9 7))))) (t_n 13 (t_n 12 (t_l 11 (a_iload 1 1)) (t_l 12 (a_ild 0))) (t_n 16 (t_l 13 (a_goto 17)) (t_n 17 (t_l 16 (a_push 1 (.int 1))) (t_l 17 a_iret)))))
set_option maxRecDepth 100000 in
theorem k_X9_align (sc : Nat × (Nat → Int32)) (d : Nat) : ∀ pc, ev_Ok cX9_align 2 [] RX9 lw_g lw_n (lw_q sc) vwCl false (ev_CO mt lw_g lw_n (lw_q sc) vwCl d) pc (g_X9_align pc) := (ok_t_n (ok_t_n (ok_t_n (ok_t_l (ok_iload_n dX9_align_0 rfl)) (ok_t_l (ok_inv (run_SN (y := 193) (n := 1) dX9_align_1 cz_193 gdG cc_193 ci_193 nst_4 cm_193 cd_193 cl_193)))) (ok_t_n (ok_t_l (ok_if_eq dX9_align_4 rfl)) (ok_t_n (ok_t_l (ok_aload_n dX9_align_7 rfl)) (ok_t_l (ok_getfield dX9_align_8 (ci := 9) (kf := 7) rfl inGX9 (by decide) w_1168))))) (ok_t_n (ok_t_n (ok_t_l (ok_iload_n dX9_align_11 rfl)) (ok_t_l (ok_iaload dX9_align_12))) (ok_t_n (ok_t_l (ok_goto dX9_align_13 rfl)) (ok_t_n (ok_t_l (ok_iconst dX9_align_16 rfl)) (ok_t_l (ok_ireturn dX9_align_17))))))
theorem dX9_isTwiceStrong_0 : decode cX9_isTwiceStrong 0 = .ok (.iload_n 1, 1) := by decide +kernel
theorem dX9_isTwiceStrong_1 : decode cX9_isTwiceStrong 1 = .ok (.invokestatic 68, 3) := by decide +kernel
theorem dX9_isTwiceStrong_4 : decode cX9_isTwiceStrong 4 = .ok (.ifCond .eq 18, 3) := by decide +kernel
theorem dX9_isTwiceStrong_7 : decode cX9_isTwiceStrong 7 = .ok (.aload_n 0, 1) := by decide +kernel
theorem dX9_isTwiceStrong_8 : decode cX9_isTwiceStrong 8 = .ok (.getfield 34, 3) := by decide +kernel
theorem dX9_isTwiceStrong_11 : decode cX9_isTwiceStrong 11 = .ok (.iload_n 1, 1) := by decide +kernel
theorem dX9_isTwiceStrong_12 : decode cX9_isTwiceStrong 12 = .ok (.invokestatic 95, 3) := by decide +kernel
theorem dX9_isTwiceStrong_15 : decode cX9_isTwiceStrong 15 = .ok (.ifCond .eq 7, 3) := by decide +kernel
theorem dX9_isTwiceStrong_18 : decode cX9_isTwiceStrong 18 = .ok (.iconst 1, 1) := by decide +kernel
theorem dX9_isTwiceStrong_19 : decode cX9_isTwiceStrong 19 = .ok (.goto 4, 3) := by decide +kernel
theorem dX9_isTwiceStrong_22 : decode cX9_isTwiceStrong 22 = .ok (.iconst 0, 1) := by decide +kernel
theorem dX9_isTwiceStrong_23 : decode cX9_isTwiceStrong 23 = .ok (.ireturn, 1) := by decide +kernel
def g_X9_isTwiceStrong : Nat → EA := (t_n 12 (t_n 7 (t_n 1 (t_l 0 (a_iload 1 1)) (t_n 4 (t_l 1 (a_inv false 193 1 none)) (t_l 4 (a_if 22 (fun x => decide (x = 0)))))) (t_n 8 (t_l 7 (a_aload 1 0)) (t_n 11 (t_l 8 (a_getf 9 9)) (t_l 11 (a_iload 1 1))))) (t_n 19 (t_n 15 (t_l 12 (a_inv false 196 2 none)) (t_n 18 (t_l 15 (a_if 22 (fun x => decide (x = 0)))) (t_l 18 (a_push 1 (.int 1))))) (t_n 22 (t_l 19 (a_goto 23)) (t_n 23 (t_l 22 (a_push 1 (.int 0))) (t_l 23 a_iret)))))
set_option maxRecDepth 100000 in
theorem k_X9_isTwiceStrong (sc : Nat × (Nat → Int32)) (d : Nat) : ∀ pc, ev_Ok cX9_isTwiceStrong 2 [] RX9 lw_g lw_n (lw_q sc) vwCl false (ev_CO mt lw_g lw_n (lw_q sc) vwCl d) pc (g_X9_isTwiceStrong pc) := (ok_t_n (ok_t_n (ok_t_n (ok_t_l (ok_iload_n dX9_isTwiceStrong_0 rfl)) (ok_t_n (ok_t_l (ok_inv (run_SN (y := 193) (n := 1) dX9_isTwiceStrong_1 cz_193 gdG cc_193 ci_193 nst_4 cm_193 cd_193 cl_193))) (ok_t_l (ok_if_eq dX9_isTwiceStrong_4 rfl)))) (ok_t_n (ok_t_l (ok_aload_n dX9_isTwiceStrong_7 rfl)) (ok_t_n (ok_t_l (ok_getfield dX9_isTwiceStrong_8 (ci := 9) (kf := 9) rfl inGX9 (by decide) w_1170)) (ok_t_l (ok_iload_n dX9_isTwiceStrong_11 rfl))))) (ok_t_n (ok_t_n (ok_t_l (ok_inv (run_SN (y := 196) (n := 2) dX9_isTwiceStrong_12 cz_196 gdG cc_196 ci_196 nst_8 cm_196 cd_196 cl_196))) (ok_t_n (ok_t_l (ok_if_eq dX9_isTwiceStrong_15 rfl)) (ok_t_l (ok_iconst dX9_isTwiceStrong_18 rfl)))) (ok_t_n (ok_t_l (ok_goto dX9_isTwiceStrong_19 rfl)) (ok_t_n (ok_t_l (ok_iconst dX9_isTwiceStrong_22 rfl)) (ok_t_l (ok_ireturn dX9_isTwiceStrong_23))))))
theorem dX10_init_0 : decode cX10_init 0 = .ok (.aload_n 0, 1) := by decide +kernel
theorem dX10_init_1 : decode cX10_init 1 = .ok (.invokespecial 3, 3) := by decide +kernel
theorem dX10_init_4 : decode cX10_init 4 = .ok (.aload_n 0, 1) := by decide +kernel
theorem dX10_init_5 : decode cX10_init 5 = .ok (.bipush 10, 2) := by decide +kernel
theorem dX10_init_7 : decode cX10_init 7 = .ok (.newarray .int, 2) := by decide +kernel
theorem dX10_init_9 : decode cX10_init 9 = .ok (.putfield 9, 3) := by decide +kernel
theorem dX10_init_12 : decode cX10_init 12 = .ok (.aload_n 0, 1) := by decide +kernel
theorem dX10_init_13 : decode cX10_init 13 = .ok (.iconst 0, 1) := by decide +kernel
theorem dX10_init_14 : decode cX10_init 14 = .ok (.putfield 15, 3) := by decide +kernel
theorem dX10_init_17 : decode cX10_init 17 = .ok (.aload_n 0, 1) := by decide +kernel
theorem dX10_init_18 : decode cX10_init 18 = .ok (.iconst 0, 1) := by decide +kernel
theorem dX10_init_19 : decode cX10_init 19 = .ok (.putfield 19, 3) := by decide +kernel
theorem dX10_init_22 : decode cX10_init 22 = .ok (.aload_n 0, 1) := by decide +kernel
theorem dX10_init_23 : decode cX10_init 23 = .ok (.iconst 0, 1) := by decide +kernel
theorem dX10_init_24 : decode cX10_init 24 = .ok (.putfield 22, 3) := by decide +kernel
theorem dX10_init_27 : decode cX10_init 27 = .ok (.aload_n 0, 1) := by decide +kernel
theorem dX10_init_28 : decode cX10_init 28 = .ok (.iconst 0, 1) := by decide +kernel
theorem dX10_init_29 : decode cX10_init 29 = .ok (.putfield 25, 3) := by decide +kernel
theorem dX10_init_32 : decode cX10_init 32 = .ok (.aload_n 0, 1) := by decide +kernel
theorem dX10_init_33 : decode cX10_init 33 = .ok (.aload_n 1, 1) := by decide +kernel
theorem dX10_init_34 : decode cX10_init 34 = .ok (.putfield 28, 3) := by decide +kernel
theorem dX10_init_37 : decode cX10_init 37 = .ok (.aload_n 0, 1) := by decide +kernel
theorem dX10_init_38 : decode cX10_init 38 = .ok (.aload_n 2, 1) := by decide +kernel
theorem dX10_init_39 : decode cX10_init 39 = .ok (.putfield 32, 3) := by decide +kernel
theorem dX10_init_42 : decode cX10_init 42 = .ok (.return_, 1) := by decide +kernel
def g_X10_init : Nat → EA := (t_n 22 (t_n 12 (t_n 5 (t_n 1 (t_l 0 (a_aload 1 0)) (t_n 4 (t_l 1 a_objI) (t_l 4 (a_aload 1 0)))) (t_n 7 (t_l 5 (a_push 2 (.int 10))) (t_n 9 (t_l 7 (a_newa 0)) (t_l 9 (a_putf 9 10 2))))) (t_n 17 (t_n 13 (t_l 12 (a_aload 1 0)) (t_n 14 (t_l 13 (a_push 1 (.int 0))) (t_l 14 (a_putf 0 10 3)))) (t_n 18 (t_l 17 (a_aload 1 0)) (t_n 19 (t_l 18 (a_push 1 (.int 0))) (t_l 19 (a_putf 0 10 4)))))) (t_n 32 (t_n 27 (t_n 23 (t_l 22 (a_aload 1 0)) (t_n 24 (t_l 23 (a_push 1 (.int 0))) (t_l 24 (a_putf 0 10 5)))) (t_n 28 (t_l 27 (a_aload 1 0)) (t_n 29 (t_l 28 (a_push 1 (.int 0))) (t_l 29 (a_putf 0 10 6))))) (t_n 37 (t_n 33 (t_l 32 (a_aload 1 0)) (t_n 34 (t_l 33 (a_aload 1 1)) (t_l 34 (a_putf 9 10 0)))) (t_n 39 (t_n 38 (t_l 37 (a_aload 1 0)) (t_l 38 (a_aload 1 2))) (t_n 42 (t_l 39 (a_putf 9 10 1)) (t_l 42 a_vret))))))
set_option maxRecDepth 100000 in
theorem k_X10_init (sc : Nat × (Nat → Int32)) (d : Nat) : ∀ pc, ev_Ok cX10_init 3 [] RX10 lw_g lw_n (lw_q sc) vwCl true (ev_CO mt lw_g lw_n (lw_q sc) vwCl d) pc (g_X10_init pc) := (ok_t_n (ok_t_n (ok_t_n (ok_t_n (ok_t_l (ok_aload_n dX10_init_0 rfl)) (ok_t_n (ok_t_l (ok_objinit dX10_init_1 w_1133 w_94 w_obj ev_CO.small)) (ok_t_l (ok_aload_n dX10_init_4 rfl)))) (ok_t_n (ok_t_l (ok_bipush dX10_init_5 rfl)) (ok_t_n (ok_t_l (ok_newint dX10_init_7 w_614)) (ok_t_l (ok_putfieldF dX10_init_9 (ci := 10) (kf := 2) rfl inGX10 (by decide) tyX10_ok nmX10 rfl w_1136 rfl rfl rfl))))) (ok_t_n (ok_t_n (ok_t_l (ok_aload_n dX10_init_12 rfl)) (ok_t_n (ok_t_l (ok_iconst dX10_init_13 rfl)) (ok_t_l (ok_putfield dX10_init_14 (ci := 10) (kf := 3) rfl inGX10 (by decide) tyX10_ok nmX10 rfl w_1137 rfl)))) (ok_t_n (ok_t_l (ok_aload_n dX10_init_17 rfl)) (ok_t_n (ok_t_l (ok_iconst dX10_init_18 rfl)) (ok_t_l (ok_putfield dX10_init_19 (ci := 10) (kf := 4) rfl inGX10 (by decide) tyX10_ok nmX10 rfl w_1138 rfl)))))) (ok_t_n (ok_t_n (ok_t_n (ok_t_l (ok_aload_n dX10_init_22 rfl)) (ok_t_n (ok_t_l (ok_iconst dX10_init_23 rfl)) (ok_t_l (ok_putfield dX10_init_24 (ci := 10) (kf := 5) rfl inGX10 (by decide) tyX10_ok nmX10 rfl w_1139 rfl)))) (ok_t_n (ok_t_l (ok_aload_n dX10_init_27 rfl)) (ok_t_n (ok_t_l (ok_iconst dX10_init_28 rfl)) (ok_t_l (ok_putfield dX10_init_29 (ci := 10) (kf := 6) rfl inGX10 (by decide) tyX10_ok nmX10 rfl w_1140 rfl))))) (ok_t_n (ok_t_n (ok_t_l (ok_aload_n dX10_init_32 rfl)) (ok_t_n (ok_t_l (ok_aload_n dX10_init_33 rfl)) (ok_t_l (ok_putfieldF dX10_init_34 (ci := 10) (kf := 0) rfl inGX10 (by decide) tyX10_ok nmX10 rfl w_1134 rfl rfl rfl)))) (ok_t_n (ok_t_n (ok_t_l (ok_aload_n dX10_init_37 rfl)) (ok_t_l (ok_aload_n dX10_init_38 rfl))) (ok_t_n (ok_t_l (ok_putfieldF dX10_init_39 (ci := 10) (kf := 1) rfl inGX10 (by decide) tyX10_ok nmX10 rfl w_1135 rfl rfl rfl)) (ok_t_l (ok_vreturn dX10_init_42)))))))
theorem dX10_count_0 : decode cX10_count 0 = .ok (.aload_n 0, 1) := by decide +kernel
theorem dX10_count_1 : decode cX10_count 1 = .ok (.getfield 15, 3) := by decide +kernel
theorem dX10_count_4 : decode cX10_count 4 = .ok (.ireturn, 1) := by decide +kernel
def g_X10_count : Nat → EA := (t_n 1 (t_l 0 (a_aload 1 0)) (t_n 4 (t_l 1 (a_getf 10 3)) (t_l 4 a_iret)))
set_option maxRecDepth 100000 in
theorem k_X10_count (sc : Nat × (Nat → Int32)) (d : Nat) : ∀ pc, ev_Ok cX10_count 1 [] RX10 lw_g lw_n (lw_q sc) vwCl false (ev_CO mt lw_g lw_n (lw_q sc) vwCl d) pc (g_X10_count pc) := (ok_t_n (ok_t_l (ok_aload_n dX10_count_0 rfl)) (ok_t_n (ok_t_l (ok_getfield dX10_count_1 (ci := 10) (kf := 3) rfl inGX10 (by decide) w_1137)) (ok_t_l (ok_ireturn dX10_count_4))))
theorem dX10_objectAt_0 : decode cX10_objectAt 0 = .ok (.iload_n 1, 1) := by decide +kernel
theorem dX10_objectAt_1 : decode cX10_objectAt 1 = .ok (.ifCond .lt 26, 3) := by decide +kernel
theorem dX10_objectAt_4 : decode cX10_objectAt 4 = .ok (.iload_n 1, 1) := by decide +kernel
theorem dX10_objectAt_5 : decode cX10_objectAt 5 = .ok (.aload_n 0, 1) := by decide +kernel
theorem dX10_objectAt_6 : decode cX10_objectAt 6 = .ok (.getfield 15, 3) := by decide +kernel
theorem dX10_objectAt_9 : decode cX10_objectAt 9 = .ok (.if_icmp .ge 18, 3) := by decide +kernel
theorem dX10_objectAt_12 : decode cX10_objectAt 12 = .ok (.iload_n 1, 1) := by decide +kernel
theorem dX10_objectAt_13 : decode cX10_objectAt 13 = .ok (.bipush 10, 2) := by decide +kernel
theorem dX10_objectAt_15 : decode cX10_objectAt 15 = .ok (.if_icmp .ge 12, 3) := by decide +kernel
theorem dX10_objectAt_18 : decode cX10_objectAt 18 = .ok (.aload_n 0, 1) := by decide +kernel
theorem dX10_objectAt_19 : decode cX10_objectAt 19 = .ok (.getfield 9, 3) := by decide +kernel
theorem dX10_objectAt_22 : decode cX10_objectAt 22 = .ok (.iload_n 1, 1) := by decide +kernel
theorem dX10_objectAt_23 : decode cX10_objectAt 23 = .ok (.iaload, 1) := by decide +kernel
theorem dX10_objectAt_24 : decode cX10_objectAt 24 = .ok (.goto 4, 3) := by decide +kernel
theorem dX10_objectAt_27 : decode cX10_objectAt 27 = .ok (.iconst (-1), 1) := by decide +kernel
theorem dX10_objectAt_28 : decode cX10_objectAt 28 = .ok (.ireturn, 1) := by decide +kernel
def g_X10_objectAt : Nat → EA := (t_n 15 (t_n 6 (t_n 4 (t_n 1 (t_l 0 (a_iload 1 1)) (t_l 1 (a_if 27 (fun x => decide (x < 0))))) (t_n 5 (t_l 4 (a_iload 1 1)) (t_l 5 (a_aload 1 0)))) (t_n 12 (t_n 9 (t_l 6 (a_getf 10 3)) (t_l 9 (a_ic 27 (fun x y => decide (y ≤ x))))) (t_n 13 (t_l 12 (a_iload 1 1)) (t_l 13 (a_push 2 (.int 10)))))) (t_n 23 (t_n 19 (t_n 18 (t_l 15 (a_ic 27 (fun x y => decide (y ≤ x)))) (t_l 18 (a_aload 1 0))) (t_n 22 (t_l 19 (a_getf 10 2)) (t_l 22 (a_iload 1 1)))) (t_n 27 (t_n 24 (t_l 23 (a_ild 0)) (t_l 24 (a_goto 28))) (t_n 28 (t_l 27 (a_push 1 (.int (-1)))) (t_l 28 a_iret)))))
set_option maxRecDepth 100000 in
theorem k_X10_objectAt (sc : Nat × (Nat → Int32)) (d : Nat) : ∀ pc, ev_Ok cX10_objectAt 2 [] RX10 lw_g lw_n (lw_q sc) vwCl false (ev_CO mt lw_g lw_n (lw_q sc) vwCl d) pc (g_X10_objectAt pc) := (ok_t_n (ok_t_n (ok_t_n (ok_t_n (ok_t_l (ok_iload_n dX10_objectAt_0 rfl)) (ok_t_l (ok_if_lt dX10_objectAt_1 rfl))) (ok_t_n (ok_t_l (ok_iload_n dX10_objectAt_4 rfl)) (ok_t_l (ok_aload_n dX10_objectAt_5 rfl)))) (ok_t_n (ok_t_n (ok_t_l (ok_getfield dX10_objectAt_6 (ci := 10) (kf := 3) rfl inGX10 (by decide) w_1137)) (ok_t_l (ok_icmp_ge dX10_objectAt_9 rfl))) (ok_t_n (ok_t_l (ok_iload_n dX10_objectAt_12 rfl)) (ok_t_l (ok_bipush dX10_objectAt_13 rfl))))) (ok_t_n (ok_t_n (ok_t_n (ok_t_l (ok_icmp_ge dX10_objectAt_15 rfl)) (ok_t_l (ok_aload_n dX10_objectAt_18 rfl))) (ok_t_n (ok_t_l (ok_getfield dX10_objectAt_19 (ci := 10) (kf := 2) rfl inGX10 (by decide) w_1136)) (ok_t_l (ok_iload_n dX10_objectAt_22 rfl)))) (ok_t_n (ok_t_n (ok_t_l (ok_iaload dX10_objectAt_23)) (ok_t_l (ok_goto dX10_objectAt_24 rfl))) (ok_t_n (ok_t_l (ok_iconst dX10_objectAt_27 rfl)) (ok_t_l (ok_ireturn dX10_objectAt_28))))))
theorem dX10_placeOf_0 : decode cX10_placeOf 0 = .ok (.iconst 0, 1) := by decide +kernel
theorem dX10_placeOf_1 : decode cX10_placeOf 1 = .ok (.istore_n 2, 1) := by decide +kernel
theorem dX10_placeOf_2 : decode cX10_placeOf 2 = .ok (.iload_n 2, 1) := by decide +kernel
theorem dX10_placeOf_3 : decode cX10_placeOf 3 = .ok (.aload_n 0, 1) := by decide +kernel
theorem dX10_placeOf_4 : decode cX10_placeOf 4 = .ok (.getfield 15, 3) := by decide +kernel
theorem dX10_placeOf_7 : decode cX10_placeOf 7 = .ok (.if_icmp .ge 27, 3) := by decide +kernel
theorem dX10_placeOf_10 : decode cX10_placeOf 10 = .ok (.iload_n 2, 1) := by decide +kernel
theorem dX10_placeOf_11 : decode cX10_placeOf 11 = .ok (.bipush 10, 2) := by decide +kernel
theorem dX10_placeOf_13 : decode cX10_placeOf 13 = .ok (.if_icmp .ge 21, 3) := by decide +kernel
theorem dX10_placeOf_16 : decode cX10_placeOf 16 = .ok (.aload_n 0, 1) := by decide +kernel
theorem dX10_placeOf_17 : decode cX10_placeOf 17 = .ok (.getfield 9, 3) := by decide +kernel
theorem dX10_placeOf_20 : decode cX10_placeOf 20 = .ok (.iload_n 2, 1) := by decide +kernel
theorem dX10_placeOf_21 : decode cX10_placeOf 21 = .ok (.iaload, 1) := by decide +kernel
theorem dX10_placeOf_22 : decode cX10_placeOf 22 = .ok (.iload_n 1, 1) := by decide +kernel
theorem dX10_placeOf_23 : decode cX10_placeOf 23 = .ok (.if_icmp .ne 5, 3) := by decide +kernel
theorem dX10_placeOf_26 : decode cX10_placeOf 26 = .ok (.iload_n 2, 1) := by decide +kernel
theorem dX10_placeOf_27 : decode cX10_placeOf 27 = .ok (.ireturn, 1) := by decide +kernel
theorem dX10_placeOf_28 : decode cX10_placeOf 28 = .ok (.iinc 2 1, 3) := by decide +kernel
theorem dX10_placeOf_31 : decode cX10_placeOf 31 = .ok (.goto (-29), 3) := by decide +kernel
theorem dX10_placeOf_34 : decode cX10_placeOf 34 = .ok (.iconst (-1), 1) := by decide +kernel
theorem dX10_placeOf_35 : decode cX10_placeOf 35 = .ok (.ireturn, 1) := by decide +kernel
def g_X10_placeOf : Nat → EA := (t_n 17 (t_n 7 (t_n 2 (t_n 1 (t_l 0 (a_push 1 (.int 0))) (t_l 1 (a_istore 3 1 2))) (t_n 3 (t_l 2 (a_iload 1 2)) (t_n 4 (t_l 3 (a_aload 1 0)) (t_l 4 (a_getf 10 3))))) (t_n 11 (t_n 10 (t_l 7 (a_ic 34 (fun x y => decide (y ≤ x)))) (t_l 10 (a_iload 1 2))) (t_n 13 (t_l 11 (a_push 2 (.int 10))) (t_n 16 (t_l 13 (a_ic 34 (fun x y => decide (y ≤ x)))) (t_l 16 (a_aload 1 0)))))) (t_n 26 (t_n 21 (t_n 20 (t_l 17 (a_getf 10 2)) (t_l 20 (a_iload 1 2))) (t_n 22 (t_l 21 (a_ild 0)) (t_n 23 (t_l 22 (a_iload 1 1)) (t_l 23 (a_ic 28 (fun x y => !decide (x = y))))))) (t_n 31 (t_n 27 (t_l 26 (a_iload 1 2)) (t_n 28 (t_l 27 a_iret) (t_l 28 (a_iinc 3 2 1)))) (t_n 34 (t_l 31 (a_goto 2)) (t_n 35 (t_l 34 (a_push 1 (.int (-1)))) (t_l 35 a_iret))))))
set_option maxRecDepth 100000 in
theorem k_X10_placeOf (sc : Nat × (Nat → Int32)) (d : Nat) : ∀ pc, ev_Ok cX10_placeOf 3 [] RX10 lw_g lw_n (lw_q sc) vwCl false (ev_CO mt lw_g lw_n (lw_q sc) vwCl d) pc (g_X10_placeOf pc) := (ok_t_n (ok_t_n (ok_t_n (ok_t_n (ok_t_l (ok_iconst dX10_placeOf_0 rfl)) (ok_t_l (ok_istore_n dX10_placeOf_1 rfl))) (ok_t_n (ok_t_l (ok_iload_n dX10_placeOf_2 rfl)) (ok_t_n (ok_t_l (ok_aload_n dX10_placeOf_3 rfl)) (ok_t_l (ok_getfield dX10_placeOf_4 (ci := 10) (kf := 3) rfl inGX10 (by decide) w_1137))))) (ok_t_n (ok_t_n (ok_t_l (ok_icmp_ge dX10_placeOf_7 rfl)) (ok_t_l (ok_iload_n dX10_placeOf_10 rfl))) (ok_t_n (ok_t_l (ok_bipush dX10_placeOf_11 rfl)) (ok_t_n (ok_t_l (ok_icmp_ge dX10_placeOf_13 rfl)) (ok_t_l (ok_aload_n dX10_placeOf_16 rfl)))))) (ok_t_n (ok_t_n (ok_t_n (ok_t_l (ok_getfield dX10_placeOf_17 (ci := 10) (kf := 2) rfl inGX10 (by decide) w_1136)) (ok_t_l (ok_iload_n dX10_placeOf_20 rfl))) (ok_t_n (ok_t_l (ok_iaload dX10_placeOf_21)) (ok_t_n (ok_t_l (ok_iload_n dX10_placeOf_22 rfl)) (ok_t_l (ok_icmp_ne dX10_placeOf_23 rfl))))) (ok_t_n (ok_t_n (ok_t_l (ok_iload_n dX10_placeOf_26 rfl)) (ok_t_n (ok_t_l (ok_ireturn dX10_placeOf_27)) (ok_t_l (ok_iinc dX10_placeOf_28 rfl)))) (ok_t_n (ok_t_l (ok_goto dX10_placeOf_31 rfl)) (ok_t_n (ok_t_l (ok_iconst dX10_placeOf_34 rfl)) (ok_t_l (ok_ireturn dX10_placeOf_35)))))))
