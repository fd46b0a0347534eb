theorem dX10_isTaken_0 : decode cX10_isTaken 0 = .ok (.iload_n 1, 1) := by decide +kernel
theorem dX10_isTaken_1 : decode cX10_isTaken 1 = .ok (.bipush 10, 2) := by decide +kernel
theorem dX10_isTaken_3 : decode cX10_isTaken 3 = .ok (.invokestatic 36, 3) := by decide +kernel
theorem dX10_isTaken_6 : decode cX10_isTaken 6 = .ok (.ifCond .eq 18, 3) := by decide +kernel
theorem dX10_isTaken_9 : decode cX10_isTaken 9 = .ok (.aload_n 0, 1) := by decide +kernel
theorem dX10_isTaken_10 : decode cX10_isTaken 10 = .ok (.getfield 19, 3) := by decide +kernel
theorem dX10_isTaken_13 : decode cX10_isTaken 13 = .ok (.iload_n 1, 1) := by decide +kernel
theorem dX10_isTaken_14 : decode cX10_isTaken 14 = .ok (.invokestatic 40, 3) := by decide +kernel
theorem dX10_isTaken_17 : decode cX10_isTaken 17 = .ok (.ifCond .eq 7, 3) := by decide +kernel
theorem dX10_isTaken_20 : decode cX10_isTaken 20 = .ok (.iconst 1, 1) := by decide +kernel
theorem dX10_isTaken_21 : decode cX10_isTaken 21 = .ok (.goto 4, 3) := by decide +kernel
theorem dX10_isTaken_24 : decode cX10_isTaken 24 = .ok (.iconst 0, 1) := by decide +kernel
theorem dX10_isTaken_25 : decode cX10_isTaken 25 = .ok (.ireturn, 1) := by decide +kernel
def g_X10_isTaken : Nat → EA := (t_n 13 (t_n 6 (t_n 1 (t_l 0 (a_iload 1 1)) (t_n 3 (t_l 1 (a_push 2 (.int 10))) (t_l 3 (a_inv false 192 2 none)))) (t_n 9 (t_l 6 (a_if 24 (fun x => decide (x = 0)))) (t_n 10 (t_l 9 (a_aload 1 0)) (t_l 10 (a_getf 10 4))))) (t_n 20 (t_n 14 (t_l 13 (a_iload 1 1)) (t_n 17 (t_l 14 (a_inv false 196 2 none)) (t_l 17 (a_if 24 (fun x => decide (x = 0)))))) (t_n 24 (t_n 21 (t_l 20 (a_push 1 (.int 1))) (t_l 21 (a_goto 25))) (t_n 25 (t_l 24 (a_push 1 (.int 0))) (t_l 25 a_iret)))))
set_option maxRecDepth 100000 in
theorem k_X10_isTaken (sc : Nat × (Nat → Int32)) (d : Nat) : ∀ pc, ev_Ok cX10_isTaken 2 [] RX10 lw_g lw_n (lw_q sc) vwCl false (ev_CO mt lw_g lw_n (lw_q sc) vwCl d) pc (g_X10_isTaken pc) := (ok_t_n (ok_t_n (ok_t_n (ok_t_l (ok_iload_n dX10_isTaken_0 rfl)) (ok_t_n (ok_t_l (ok_bipush dX10_isTaken_1 rfl)) (ok_t_l (ok_inv (run_SN (y := 192) (n := 2) dX10_isTaken_3 cz_192 gdG cc_192 ci_192 nst_5 cm_192 cd_192 cl_192))))) (ok_t_n (ok_t_l (ok_if_eq dX10_isTaken_6 rfl)) (ok_t_n (ok_t_l (ok_aload_n dX10_isTaken_9 rfl)) (ok_t_l (ok_getfield dX10_isTaken_10 (ci := 10) (kf := 4) rfl inGX10 (by decide) w_1138))))) (ok_t_n (ok_t_n (ok_t_l (ok_iload_n dX10_isTaken_13 rfl)) (ok_t_n (ok_t_l (ok_inv (run_SN (y := 196) (n := 2) dX10_isTaken_14 cz_196 gdG cc_196 ci_196 nst_3 cm_196 cd_196 cl_196))) (ok_t_l (ok_if_eq dX10_isTaken_17 rfl)))) (ok_t_n (ok_t_n (ok_t_l (ok_iconst dX10_isTaken_20 rfl)) (ok_t_l (ok_goto dX10_isTaken_21 rfl))) (ok_t_n (ok_t_l (ok_iconst dX10_isTaken_24 rfl)) (ok_t_l (ok_ireturn dX10_isTaken_25))))))
theorem dX10_take_0 : decode cX10_take 0 = .ok (.aload_n 0, 1) := by decide +kernel
theorem dX10_take_1 : decode cX10_take 1 = .ok (.iconst 0, 1) := by decide +kernel
theorem dX10_take_2 : decode cX10_take 2 = .ok (.putfield 15, 3) := by decide +kernel
theorem dX10_take_5 : decode cX10_take 5 = .ok (.aload_n 0, 1) := by decide +kernel
theorem dX10_take_6 : decode cX10_take 6 = .ok (.iconst 0, 1) := by decide +kernel
theorem dX10_take_7 : decode cX10_take 7 = .ok (.putfield 19, 3) := by decide +kernel
theorem dX10_take_10 : decode cX10_take 10 = .ok (.aload_n 0, 1) := by decide +kernel
theorem dX10_take_11 : decode cX10_take 11 = .ok (.iconst 1, 1) := by decide +kernel
theorem dX10_take_12 : decode cX10_take 12 = .ok (.iload_n 1, 1) := by decide +kernel
theorem dX10_take_13 : decode cX10_take 13 = .ok (.ishl, 1) := by decide +kernel
theorem dX10_take_14 : decode cX10_take 14 = .ok (.putfield 22, 3) := by decide +kernel
theorem dX10_take_17 : decode cX10_take 17 = .ok (.aload_n 0, 1) := by decide +kernel
theorem dX10_take_18 : decode cX10_take 18 = .ok (.iconst 0, 1) := by decide +kernel
theorem dX10_take_19 : decode cX10_take 19 = .ok (.putfield 25, 3) := by decide +kernel
theorem dX10_take_22 : decode cX10_take 22 = .ok (.iload_n 2, 1) := by decide +kernel
theorem dX10_take_23 : decode cX10_take 23 = .ok (.iconst (-1), 1) := by decide +kernel
theorem dX10_take_24 : decode cX10_take 24 = .ok (.if_icmp .ne 7, 3) := by decide +kernel
theorem dX10_take_27 : decode cX10_take 27 = .ok (.iconst (-1), 1) := by decide +kernel
theorem dX10_take_28 : decode cX10_take 28 = .ok (.goto 8, 3) := by decide +kernel
theorem dX10_take_31 : decode cX10_take 31 = .ok (.iconst 1, 1) := by decide +kernel
theorem dX10_take_32 : decode cX10_take 32 = .ok (.iload_n 2, 1) := by decide +kernel
theorem dX10_take_33 : decode cX10_take 33 = .ok (.ishl, 1) := by decide +kernel
theorem dX10_take_34 : decode cX10_take 34 = .ok (.iconst (-1), 1) := by decide +kernel
theorem dX10_take_35 : decode cX10_take 35 = .ok (.ixor, 1) := by decide +kernel
theorem dX10_take_36 : decode cX10_take 36 = .ok (.istore_n 3, 1) := by decide +kernel
theorem dX10_take_37 : decode cX10_take 37 = .ok (.iconst 0, 1) := by decide +kernel
theorem dX10_take_38 : decode cX10_take 38 = .ok (.istore 4, 2) := by decide +kernel
theorem dX10_take_40 : decode cX10_take 40 = .ok (.iload 4, 2) := by decide +kernel
theorem dX10_take_42 : decode cX10_take 42 = .ok (.aload_n 0, 1) := by decide +kernel
theorem dX10_take_43 : decode cX10_take 43 = .ok (.getfield 32, 3) := by decide +kernel
theorem dX10_take_46 : decode cX10_take 46 = .ok (.invokevirtual 43, 3) := by decide +kernel
theorem dX10_take_49 : decode cX10_take 49 = .ok (.if_icmp .ge 58, 3) := by decide +kernel
theorem dX10_take_52 : decode cX10_take 52 = .ok (.aload_n 0, 1) := by decide +kernel
theorem dX10_take_53 : decode cX10_take 53 = .ok (.getfield 32, 3) := by decide +kernel
theorem dX10_take_56 : decode cX10_take 56 = .ok (.iload 4, 2) := by decide +kernel
theorem dX10_take_58 : decode cX10_take 58 = .ok (.invokevirtual 48, 3) := by decide +kernel
theorem dX10_take_61 : decode cX10_take 61 = .ok (.ifCond .eq 21, 3) := by decide +kernel
theorem dX10_take_64 : decode cX10_take 64 = .ok (.aload_n 0, 1) := by decide +kernel
theorem dX10_take_65 : decode cX10_take 65 = .ok (.aload_n 0, 1) := by decide +kernel
theorem dX10_take_66 : decode cX10_take 66 = .ok (.getfield 32, 3) := by decide +kernel
theorem dX10_take_69 : decode cX10_take 69 = .ok (.iload 4, 2) := by decide +kernel
theorem dX10_take_71 : decode cX10_take 71 = .ok (.invokevirtual 52, 3) := by decide +kernel
theorem dX10_take_74 : decode cX10_take 74 = .ok (.iload_n 3, 1) := by decide +kernel
theorem dX10_take_75 : decode cX10_take 75 = .ok (.iand, 1) := by decide +kernel
theorem dX10_take_76 : decode cX10_take 76 = .ok (.invokevirtual 56, 3) := by decide +kernel
theorem dX10_take_79 : decode cX10_take 79 = .ok (.goto 22, 3) := by decide +kernel
theorem dX10_take_82 : decode cX10_take 82 = .ok (.aload_n 0, 1) := by decide +kernel
theorem dX10_take_83 : decode cX10_take 83 = .ok (.getfield 32, 3) := by decide +kernel
theorem dX10_take_86 : decode cX10_take 86 = .ok (.iload 4, 2) := by decide +kernel
theorem dX10_take_88 : decode cX10_take 88 = .ok (.invokevirtual 60, 3) := by decide +kernel
theorem dX10_take_91 : decode cX10_take 91 = .ok (.ifCond .ne 10, 3) := by decide +kernel
theorem dX10_take_94 : decode cX10_take 94 = .ok (.aload_n 0, 1) := by decide +kernel
theorem dX10_take_95 : decode cX10_take 95 = .ok (.iload 4, 2) := by decide +kernel
theorem dX10_take_97 : decode cX10_take 97 = .ok (.iload_n 3, 1) := by decide +kernel
theorem dX10_take_98 : decode cX10_take 98 = .ok (.invokevirtual 63, 3) := by decide +kernel
theorem dX10_take_101 : decode cX10_take 101 = .ok (.iinc 4 1, 3) := by decide +kernel
theorem dX10_take_104 : decode cX10_take 104 = .ok (.goto (-64), 3) := by decide +kernel
theorem dX10_take_107 : decode cX10_take 107 = .ok (.return_, 1) := by decide +kernel
def g_X10_take : Nat → EA := (t_n 43 (t_n 22 (t_n 11 (t_n 5 (t_n 1 (t_l 0 (a_aload 1 0)) (t_n 2 (t_l 1 (a_push 1 (.int 0))) (t_l 2 (a_putf 0 10 3)))) (t_n 7 (t_n 6 (t_l 5 (a_aload 1 0)) (t_l 6 (a_push 1 (.int 0)))) (t_n 10 (t_l 7 (a_putf 0 10 4)) (t_l 10 (a_aload 1 0))))) (t_n 14 (t_n 12 (t_l 11 (a_push 1 (.int 1))) (t_n 13 (t_l 12 (a_iload 1 1)) (t_l 13 (a_ii 1 (fun x y => x <<< (y &&& 31)))))) (t_n 18 (t_n 17 (t_l 14 (a_putf 0 10 5)) (t_l 17 (a_aload 1 0))) (t_n 19 (t_l 18 (a_push 1 (.int 0))) (t_l 19 (a_putf 0 10 6)))))) (t_n 33 (t_n 27 (t_n 23 (t_l 22 (a_iload 1 2)) (t_n 24 (t_l 23 (a_push 1 (.int (-1)))) (t_l 24 (a_ic 31 (fun x y => !decide (x = y)))))) (t_n 31 (t_n 28 (t_l 27 (a_push 1 (.int (-1)))) (t_l 28 (a_goto 36))) (t_n 32 (t_l 31 (a_push 1 (.int 1))) (t_l 32 (a_iload 1 2))))) (t_n 37 (t_n 35 (t_n 34 (t_l 33 (a_ii 1 (fun x y => x <<< (y &&& 31)))) (t_l 34 (a_push 1 (.int (-1))))) (t_n 36 (t_l 35 (a_ii 1 (fun x y => x ^^^ y))) (t_l 36 (a_istore 5 1 3)))) (t_n 40 (t_n 38 (t_l 37 (a_push 1 (.int 0))) (t_l 38 (a_istore 5 2 4))) (t_n 42 (t_l 40 (a_iload 2 4)) (t_l 42 (a_aload 1 0))))))) (t_n 75 (t_n 61 (t_n 52 (t_n 46 (t_l 43 (a_getf 10 1)) (t_n 49 (t_l 46 (a_inv true 10 1 (some 2))) (t_l 49 (a_ic 107 (fun x y => decide (y ≤ x)))))) (t_n 56 (t_n 53 (t_l 52 (a_aload 1 0)) (t_l 53 (a_getf 10 1))) (t_n 58 (t_l 56 (a_iload 2 4)) (t_l 58 (a_inv true 17 2 (some 2)))))) (t_n 66 (t_n 64 (t_l 61 (a_if 82 (fun x => decide (x = 0)))) (t_n 65 (t_l 64 (a_aload 1 0)) (t_l 65 (a_aload 1 0)))) (t_n 71 (t_n 69 (t_l 66 (a_getf 10 1)) (t_l 69 (a_iload 2 4))) (t_n 74 (t_l 71 (a_inv true 16 2 (some 2))) (t_l 74 (a_iload 1 3)))))) (t_n 91 (t_n 82 (t_n 76 (t_l 75 (a_ii 1 (fun x y => x &&& y))) (t_n 79 (t_l 76 (a_inv true 154 2 (some 10))) (t_l 79 (a_goto 101)))) (t_n 86 (t_n 83 (t_l 82 (a_aload 1 0)) (t_l 83 (a_getf 10 1))) (t_n 88 (t_l 86 (a_iload 2 4)) (t_l 88 (a_inv true 18 2 (some 2)))))) (t_n 98 (t_n 95 (t_n 94 (t_l 91 (a_if 101 (fun x => !decide (x = 0)))) (t_l 94 (a_aload 1 0))) (t_n 97 (t_l 95 (a_iload 2 4)) (t_l 97 (a_iload 1 3)))) (t_n 104 (t_n 101 (t_l 98 (a_inv true 155 3 (some 10))) (t_l 101 (a_iinc 5 4 1))) (t_n 107 (t_l 104 (a_goto 40)) (t_l 107 a_vret)))))))
set_option maxRecDepth 100000 in
theorem k_X10_take (sc : Nat × (Nat → Int32)) (d : Nat) : ∀ pc, ev_Ok cX10_take 5 [] RX10 lw_g lw_n (lw_q sc) vwCl false (ev_CO mt lw_g lw_n (lw_q sc) vwCl d) pc (g_X10_take pc) := (ok_t_n (ok_t_n (ok_t_n (ok_t_n (ok_t_n (ok_t_l (ok_aload_n dX10_take_0 rfl)) (ok_t_n (ok_t_l (ok_iconst dX10_take_1 rfl)) (ok_t_l (ok_putfield dX10_take_2 (ci := 10) (kf := 3) rfl inGX10 (by decide) tyX10_ok nmX10 rfl w_1137 rfl)))) (ok_t_n (ok_t_n (ok_t_l (ok_aload_n dX10_take_5 rfl)) (ok_t_l (ok_iconst dX10_take_6 rfl))) (ok_t_n (ok_t_l (ok_putfield dX10_take_7 (ci := 10) (kf := 4) rfl inGX10 (by decide) tyX10_ok nmX10 rfl w_1138 rfl)) (ok_t_l (ok_aload_n dX10_take_10 rfl))))) (ok_t_n (ok_t_n (ok_t_l (ok_iconst dX10_take_11 rfl)) (ok_t_n (ok_t_l (ok_iload_n dX10_take_12 rfl)) (ok_t_l (ok_ishl dX10_take_13)))) (ok_t_n (ok_t_n (ok_t_l (ok_putfield dX10_take_14 (ci := 10) (kf := 5) rfl inGX10 (by decide) tyX10_ok nmX10 rfl w_1139 rfl)) (ok_t_l (ok_aload_n dX10_take_17 rfl))) (ok_t_n (ok_t_l (ok_iconst dX10_take_18 rfl)) (ok_t_l (ok_putfield dX10_take_19 (ci := 10) (kf := 6) rfl inGX10 (by decide) tyX10_ok nmX10 rfl w_1140 rfl)))))) (ok_t_n (ok_t_n (ok_t_n (ok_t_l (ok_iload_n dX10_take_22 rfl)) (ok_t_n (ok_t_l (ok_iconst dX10_take_23 rfl)) (ok_t_l (ok_icmp_ne dX10_take_24 rfl)))) (ok_t_n (ok_t_n (ok_t_l (ok_iconst dX10_take_27 rfl)) (ok_t_l (ok_goto dX10_take_28 rfl))) (ok_t_n (ok_t_l (ok_iconst dX10_take_31 rfl)) (ok_t_l (ok_iload_n dX10_take_32 rfl))))) (ok_t_n (ok_t_n (ok_t_n (ok_t_l (ok_ishl dX10_take_33)) (ok_t_l (ok_iconst dX10_take_34 rfl))) (ok_t_n (ok_t_l (ok_ixor dX10_take_35)) (ok_t_l (ok_istore_n dX10_take_36 rfl)))) (ok_t_n (ok_t_n (ok_t_l (ok_iconst dX10_take_37 rfl)) (ok_t_l (ok_istore dX10_take_38))) (ok_t_n (ok_t_l (ok_iload dX10_take_40)) (ok_t_l (ok_aload_n dX10_take_42 rfl))))))) (ok_t_n (ok_t_n (ok_t_n (ok_t_n (ok_t_l (ok_getfield dX10_take_43 (ci := 10) (kf := 1) rfl inGX10 (by decide) w_1135)) (ok_t_n (ok_t_l (ok_inv (run_V (y := 10) (n := 0) (ci := 2) dX10_take_46 cz_10 gdG cc_10 ci_10 w_270 cm_10 cs_10 cd_10 cl_10 rfl rfl))) (ok_t_l (ok_icmp_ge dX10_take_49 rfl)))) (ok_t_n (ok_t_n (ok_t_l (ok_aload_n dX10_take_52 rfl)) (ok_t_l (ok_getfield dX10_take_53 (ci := 10) (kf := 1) rfl inGX10 (by decide) w_1135))) (ok_t_n (ok_t_l (ok_iload dX10_take_56)) (ok_t_l (ok_inv (run_V (y := 17) (n := 1) (ci := 2) dX10_take_58 cz_17 gdG cc_17 ci_17 w_274 cm_17 cs_17 cd_17 cl_17 rfl rfl)))))) (ok_t_n (ok_t_n (ok_t_l (ok_if_eq dX10_take_61 rfl)) (ok_t_n (ok_t_l (ok_aload_n dX10_take_64 rfl)) (ok_t_l (ok_aload_n dX10_take_65 rfl)))) (ok_t_n (ok_t_n (ok_t_l (ok_getfield dX10_take_66 (ci := 10) (kf := 1) rfl inGX10 (by decide) w_1135)) (ok_t_l (ok_iload dX10_take_69))) (ok_t_n (ok_t_l (ok_inv (run_V (y := 16) (n := 1) (ci := 2) dX10_take_71 cz_16 gdG cc_16 ci_16 w_278 cm_16 cs_16 cd_16 cl_16 rfl rfl))) (ok_t_l (ok_iload_n dX10_take_74 rfl)))))) (ok_t_n (ok_t_n (ok_t_n (ok_t_l (ok_iand dX10_take_75)) (ok_t_n (ok_t_l (ok_inv (run_V (y := 154) (n := 1) (ci := 10) dX10_take_76 cz_154 gdG cc_154 ci_154 w_282 cm_154 cs_154 cd_154 cl_154 rfl rfl))) (ok_t_l (ok_goto dX10_take_79 rfl)))) (ok_t_n (ok_t_n (ok_t_l (ok_aload_n dX10_take_82 rfl)) (ok_t_l (ok_getfield dX10_take_83 (ci := 10) (kf := 1) rfl inGX10 (by decide) w_1135))) (ok_t_n (ok_t_l (ok_iload dX10_take_86)) (ok_t_l (ok_inv (run_V (y := 18) (n := 1) (ci := 2) dX10_take_88 cz_18 gdG cc_18 ci_18 w_297 cm_18 cs_18 cd_18 cl_18 rfl rfl)))))) (ok_t_n (ok_t_n (ok_t_n (ok_t_l (ok_if_ne dX10_take_91 rfl)) (ok_t_l (ok_aload_n dX10_take_94 rfl))) (ok_t_n (ok_t_l (ok_iload dX10_take_95)) (ok_t_l (ok_iload_n dX10_take_97 rfl)))) (ok_t_n (ok_t_n (ok_t_l (ok_inv (run_V (y := 155) (n := 2) (ci := 10) dX10_take_98 cz_155 gdG cc_155 ci_155 w_301 cm_155 cs_155 cd_155 cl_155 rfl rfl))) (ok_t_l (ok_iinc dX10_take_101 rfl))) (ok_t_n (ok_t_l (ok_goto dX10_take_104 rfl)) (ok_t_l (ok_vreturn dX10_take_107))))))))
theorem dX10_takeAll_0 : decode cX10_takeAll 0 = .ok (.iconst 0, 1) := by decide +kernel
theorem dX10_takeAll_1 : decode cX10_takeAll 1 = .ok (.istore_n 2, 1) := by decide +kernel
theorem dX10_takeAll_2 : decode cX10_takeAll 2 = .ok (.iload_n 2, 1) := by decide +kernel
theorem dX10_takeAll_3 : decode cX10_takeAll 3 = .ok (.bipush 10, 2) := by decide +kernel
theorem dX10_takeAll_5 : decode cX10_takeAll 5 = .ok (.if_icmp .ge 22, 3) := by decide +kernel
theorem dX10_takeAll_8 : decode cX10_takeAll 8 = .ok (.iload_n 1, 1) := by decide +kernel
theorem dX10_takeAll_9 : decode cX10_takeAll 9 = .ok (.iload_n 2, 1) := by decide +kernel
theorem dX10_takeAll_10 : decode cX10_takeAll 10 = .ok (.invokestatic 40, 3) := by decide +kernel
theorem dX10_takeAll_13 : decode cX10_takeAll 13 = .ok (.ifCond .eq 8, 3) := by decide +kernel
theorem dX10_takeAll_16 : decode cX10_takeAll 16 = .ok (.aload_n 0, 1) := by decide +kernel
theorem dX10_takeAll_17 : decode cX10_takeAll 17 = .ok (.iload_n 2, 1) := by decide +kernel
theorem dX10_takeAll_18 : decode cX10_takeAll 18 = .ok (.invokevirtual 67, 3) := by decide +kernel
theorem dX10_takeAll_21 : decode cX10_takeAll 21 = .ok (.iinc 2 1, 3) := by decide +kernel
theorem dX10_takeAll_24 : decode cX10_takeAll 24 = .ok (.goto (-22), 3) := by decide +kernel
theorem dX10_takeAll_27 : decode cX10_takeAll 27 = .ok (.return_, 1) := by decide +kernel
def g_X10_takeAll : Nat → EA := (t_n 10 (t_n 3 (t_n 1 (t_l 0 (a_push 1 (.int 0))) (t_n 2 (t_l 1 (a_istore 3 1 2)) (t_l 2 (a_iload 1 2)))) (t_n 8 (t_n 5 (t_l 3 (a_push 2 (.int 10))) (t_l 5 (a_ic 27 (fun x y => decide (y ≤ x))))) (t_n 9 (t_l 8 (a_iload 1 1)) (t_l 9 (a_iload 1 2))))) (t_n 18 (t_n 16 (t_n 13 (t_l 10 (a_inv false 196 2 none)) (t_l 13 (a_if 21 (fun x => decide (x = 0))))) (t_n 17 (t_l 16 (a_aload 1 0)) (t_l 17 (a_iload 1 2)))) (t_n 24 (t_n 21 (t_l 18 (a_inv true 157 2 (some 10))) (t_l 21 (a_iinc 3 2 1))) (t_n 27 (t_l 24 (a_goto 2)) (t_l 27 a_vret)))))
set_option maxRecDepth 100000 in
theorem k_X10_takeAll (sc : Nat × (Nat → Int32)) (d : Nat) : ∀ pc, ev_Ok cX10_takeAll 3 [] RX10 lw_g lw_n (lw_q sc) vwCl false (ev_CO mt lw_g lw_n (lw_q sc) vwCl d) pc (g_X10_takeAll pc) := (ok_t_n (ok_t_n (ok_t_n (ok_t_l (ok_iconst dX10_takeAll_0 rfl)) (ok_t_n (ok_t_l (ok_istore_n dX10_takeAll_1 rfl)) (ok_t_l (ok_iload_n dX10_takeAll_2 rfl)))) (ok_t_n (ok_t_n (ok_t_l (ok_bipush dX10_takeAll_3 rfl)) (ok_t_l (ok_icmp_ge dX10_takeAll_5 rfl))) (ok_t_n (ok_t_l (ok_iload_n dX10_takeAll_8 rfl)) (ok_t_l (ok_iload_n dX10_takeAll_9 rfl))))) (ok_t_n (ok_t_n (ok_t_n (ok_t_l (ok_inv (run_SN (y := 196) (n := 2) dX10_takeAll_10 cz_196 gdG cc_196 ci_196 nst_3 cm_196 cd_196 cl_196))) (ok_t_l (ok_if_eq dX10_takeAll_13 rfl))) (ok_t_n (ok_t_l (ok_aload_n dX10_takeAll_16 rfl)) (ok_t_l (ok_iload_n dX10_takeAll_17 rfl)))) (ok_t_n (ok_t_n (ok_t_l (ok_inv (run_V (y := 157) (n := 1) (ci := 10) dX10_takeAll_18 cz_157 gdG cc_157 ci_157 w_288 cm_157 cs_157 cd_157 cl_157 rfl rfl))) (ok_t_l (ok_iinc dX10_takeAll_21 rfl))) (ok_t_n (ok_t_l (ok_goto dX10_takeAll_24 rfl)) (ok_t_l (ok_vreturn dX10_takeAll_27))))))
theorem dX10_takeGroup_0 : decode cX10_takeGroup 0 = .ok (.aload_n 0, 1) := by decide +kernel
theorem dX10_takeGroup_1 : decode cX10_takeGroup 1 = .ok (.getfield 32, 3) := by decide +kernel
theorem dX10_takeGroup_4 : decode cX10_takeGroup 4 = .ok (.iload_n 1, 1) := by decide +kernel
theorem dX10_takeGroup_5 : decode cX10_takeGroup 5 = .ok (.invokevirtual 70, 3) := by decide +kernel
theorem dX10_takeGroup_8 : decode cX10_takeGroup 8 = .ok (.istore_n 3, 1) := by decide +kernel
theorem dX10_takeGroup_9 : decode cX10_takeGroup 9 = .ok (.iconst 0, 1) := by decide +kernel
theorem dX10_takeGroup_10 : decode cX10_takeGroup 10 = .ok (.istore 4, 2) := by decide +kernel
theorem dX10_takeGroup_12 : decode cX10_takeGroup 12 = .ok (.iload 4, 2) := by decide +kernel
theorem dX10_takeGroup_14 : decode cX10_takeGroup 14 = .ok (.bipush 10, 2) := by decide +kernel
theorem dX10_takeGroup_16 : decode cX10_takeGroup 16 = .ok (.if_icmp .gt 57, 3) := by decide +kernel
theorem dX10_takeGroup_19 : decode cX10_takeGroup 19 = .ok (.aload_n 0, 1) := by decide +kernel
theorem dX10_takeGroup_20 : decode cX10_takeGroup 20 = .ok (.getfield 15, 3) := by decide +kernel
theorem dX10_takeGroup_23 : decode cX10_takeGroup 23 = .ok (.istore 5, 2) := by decide +kernel
theorem dX10_takeGroup_25 : decode cX10_takeGroup 25 = .ok (.iload_n 1, 1) := by decide +kernel
theorem dX10_takeGroup_26 : decode cX10_takeGroup 26 = .ok (.istore 6, 2) := by decide +kernel
theorem dX10_takeGroup_28 : decode cX10_takeGroup 28 = .ok (.iload 6, 2) := by decide +kernel
theorem dX10_takeGroup_30 : decode cX10_takeGroup 30 = .ok (.iload_n 3, 1) := by decide +kernel
theorem dX10_takeGroup_31 : decode cX10_takeGroup 31 = .ok (.if_icmp .ge 24, 3) := by decide +kernel
theorem dX10_takeGroup_34 : decode cX10_takeGroup 34 = .ok (.aload_n 0, 1) := by decide +kernel
theorem dX10_takeGroup_35 : decode cX10_takeGroup 35 = .ok (.aload_n 0, 1) := by decide +kernel
theorem dX10_takeGroup_36 : decode cX10_takeGroup 36 = .ok (.getfield 32, 3) := by decide +kernel
theorem dX10_takeGroup_39 : decode cX10_takeGroup 39 = .ok (.iload 6, 2) := by decide +kernel
theorem dX10_takeGroup_41 : decode cX10_takeGroup 41 = .ok (.invokevirtual 52, 3) := by decide +kernel
theorem dX10_takeGroup_44 : decode cX10_takeGroup 44 = .ok (.iload_n 2, 1) := by decide +kernel
theorem dX10_takeGroup_45 : decode cX10_takeGroup 45 = .ok (.iand, 1) := by decide +kernel
theorem dX10_takeGroup_46 : decode cX10_takeGroup 46 = .ok (.invokevirtual 73, 3) := by decide +kernel
theorem dX10_takeGroup_49 : decode cX10_takeGroup 49 = .ok (.iinc 6 1, 3) := by decide +kernel
theorem dX10_takeGroup_52 : decode cX10_takeGroup 52 = .ok (.goto (-24), 3) := by decide +kernel
theorem dX10_takeGroup_55 : decode cX10_takeGroup 55 = .ok (.aload_n 0, 1) := by decide +kernel
theorem dX10_takeGroup_56 : decode cX10_takeGroup 56 = .ok (.getfield 15, 3) := by decide +kernel
theorem dX10_takeGroup_59 : decode cX10_takeGroup 59 = .ok (.iload 5, 2) := by decide +kernel
theorem dX10_takeGroup_61 : decode cX10_takeGroup 61 = .ok (.if_icmp .ne 6, 3) := by decide +kernel
theorem dX10_takeGroup_64 : decode cX10_takeGroup 64 = .ok (.goto 9, 3) := by decide +kernel
theorem dX10_takeGroup_67 : decode cX10_takeGroup 67 = .ok (.iinc 4 1, 3) := by decide +kernel
theorem dX10_takeGroup_70 : decode cX10_takeGroup 70 = .ok (.goto (-58), 3) := by decide +kernel
theorem dX10_takeGroup_73 : decode cX10_takeGroup 73 = .ok (.return_, 1) := by decide +kernel
def g_X10_takeGroup : Nat → EA := (t_n 34 (t_n 16 (t_n 8 (t_n 4 (t_n 1 (t_l 0 (a_aload 1 0)) (t_l 1 (a_getf 10 1))) (t_n 5 (t_l 4 (a_iload 1 1)) (t_l 5 (a_inv true 19 2 (some 2))))) (t_n 10 (t_n 9 (t_l 8 (a_istore 7 1 3)) (t_l 9 (a_push 1 (.int 0)))) (t_n 12 (t_l 10 (a_istore 7 2 4)) (t_n 14 (t_l 12 (a_iload 2 4)) (t_l 14 (a_push 2 (.int 10))))))) (t_n 25 (t_n 20 (t_n 19 (t_l 16 (a_ic 73 (fun x y => decide (y < x)))) (t_l 19 (a_aload 1 0))) (t_n 23 (t_l 20 (a_getf 10 3)) (t_l 23 (a_istore 7 2 5)))) (t_n 28 (t_n 26 (t_l 25 (a_iload 1 1)) (t_l 26 (a_istore 7 2 6))) (t_n 30 (t_l 28 (a_iload 2 6)) (t_n 31 (t_l 30 (a_iload 1 3)) (t_l 31 (a_ic 55 (fun x y => decide (y ≤ x))))))))) (t_n 52 (t_n 41 (t_n 36 (t_n 35 (t_l 34 (a_aload 1 0)) (t_l 35 (a_aload 1 0))) (t_n 39 (t_l 36 (a_getf 10 1)) (t_l 39 (a_iload 2 6)))) (t_n 45 (t_n 44 (t_l 41 (a_inv true 16 2 (some 2))) (t_l 44 (a_iload 1 2))) (t_n 46 (t_l 45 (a_ii 1 (fun x y => x &&& y))) (t_n 49 (t_l 46 (a_inv true 156 2 (some 10))) (t_l 49 (a_iinc 7 6 1)))))) (t_n 61 (t_n 56 (t_n 55 (t_l 52 (a_goto 28)) (t_l 55 (a_aload 1 0))) (t_n 59 (t_l 56 (a_getf 10 3)) (t_l 59 (a_iload 2 5)))) (t_n 67 (t_n 64 (t_l 61 (a_ic 67 (fun x y => !decide (x = y)))) (t_l 64 (a_goto 73))) (t_n 70 (t_l 67 (a_iinc 7 4 1)) (t_n 73 (t_l 70 (a_goto 12)) (t_l 73 a_vret)))))))
set_option maxRecDepth 100000 in
theorem k_X10_takeGroup (sc : Nat × (Nat → Int32)) (d : Nat) : ∀ pc, ev_Ok cX10_takeGroup 7 [] RX10 lw_g lw_n (lw_q sc) vwCl false (ev_CO mt lw_g lw_n (lw_q sc) vwCl d) pc (g_X10_takeGroup pc) := (ok_t_n (ok_t_n (ok_t_n (ok_t_n (ok_t_n (ok_t_l (ok_aload_n dX10_takeGroup_0 rfl)) (ok_t_l (ok_getfield dX10_takeGroup_1 (ci := 10) (kf := 1) rfl inGX10 (by decide) w_1135))) (ok_t_n (ok_t_l (ok_iload_n dX10_takeGroup_4 rfl)) (ok_t_l (ok_inv (run_V (y := 19) (n := 1) (ci := 2) dX10_takeGroup_5 cz_19 gdG cc_19 ci_19 w_305 cm_19 cs_19 cd_19 cl_19 rfl rfl))))) (ok_t_n (ok_t_n (ok_t_l (ok_istore_n dX10_takeGroup_8 rfl)) (ok_t_l (ok_iconst dX10_takeGroup_9 rfl))) (ok_t_n (ok_t_l (ok_istore dX10_takeGroup_10)) (ok_t_n (ok_t_l (ok_iload dX10_takeGroup_12)) (ok_t_l (ok_bipush dX10_takeGroup_14 rfl)))))) (ok_t_n (ok_t_n (ok_t_n (ok_t_l (ok_icmp_gt dX10_takeGroup_16 rfl)) (ok_t_l (ok_aload_n dX10_takeGroup_19 rfl))) (ok_t_n (ok_t_l (ok_getfield dX10_takeGroup_20 (ci := 10) (kf := 3) rfl inGX10 (by decide) w_1137)) (ok_t_l (ok_istore dX10_takeGroup_23)))) (ok_t_n (ok_t_n (ok_t_l (ok_iload_n dX10_takeGroup_25 rfl)) (ok_t_l (ok_istore dX10_takeGroup_26))) (ok_t_n (ok_t_l (ok_iload dX10_takeGroup_28)) (ok_t_n (ok_t_l (ok_iload_n dX10_takeGroup_30 rfl)) (ok_t_l (ok_icmp_ge dX10_takeGroup_31 rfl))))))) (ok_t_n (ok_t_n (ok_t_n (ok_t_n (ok_t_l (ok_aload_n dX10_takeGroup_34 rfl)) (ok_t_l (ok_aload_n dX10_takeGroup_35 rfl))) (ok_t_n (ok_t_l (ok_getfield dX10_takeGroup_36 (ci := 10) (kf := 1) rfl inGX10 (by decide) w_1135)) (ok_t_l (ok_iload dX10_takeGroup_39)))) (ok_t_n (ok_t_n (ok_t_l (ok_inv (run_V (y := 16) (n := 1) (ci := 2) dX10_takeGroup_41 cz_16 gdG cc_16 ci_16 w_278 cm_16 cs_16 cd_16 cl_16 rfl rfl))) (ok_t_l (ok_iload_n dX10_takeGroup_44 rfl))) (ok_t_n (ok_t_l (ok_iand dX10_takeGroup_45)) (ok_t_n (ok_t_l (ok_inv (run_V (y := 156) (n := 1) (ci := 10) dX10_takeGroup_46 cz_156 gdG cc_156 ci_156 w_310 cm_156 cs_156 cd_156 cl_156 rfl rfl))) (ok_t_l (ok_iinc dX10_takeGroup_49 rfl)))))) (ok_t_n (ok_t_n (ok_t_n (ok_t_l (ok_goto dX10_takeGroup_52 rfl)) (ok_t_l (ok_aload_n dX10_takeGroup_55 rfl))) (ok_t_n (ok_t_l (ok_getfield dX10_takeGroup_56 (ci := 10) (kf := 3) rfl inGX10 (by decide) w_1137)) (ok_t_l (ok_iload dX10_takeGroup_59)))) (ok_t_n (ok_t_n (ok_t_l (ok_icmp_ne dX10_takeGroup_61 rfl)) (ok_t_l (ok_goto dX10_takeGroup_64 rfl))) (ok_t_n (ok_t_l (ok_iinc dX10_takeGroup_67 rfl)) (ok_t_n (ok_t_l (ok_goto dX10_takeGroup_70 rfl)) (ok_t_l (ok_vreturn dX10_takeGroup_73))))))))
theorem dX10_takeWanted_0 : decode cX10_takeWanted 0 = .ok (.iconst 0, 1) := by decide +kernel
theorem dX10_takeWanted_1 : decode cX10_takeWanted 1 = .ok (.istore_n 2, 1) := by decide +kernel
theorem dX10_takeWanted_2 : decode cX10_takeWanted 2 = .ok (.iload_n 2, 1) := by decide +kernel
theorem dX10_takeWanted_3 : decode cX10_takeWanted 3 = .ok (.bipush 10, 2) := by decide +kernel
theorem dX10_takeWanted_5 : decode cX10_takeWanted 5 = .ok (.if_icmp .ge 52, 3) := by decide +kernel
theorem dX10_takeWanted_8 : decode cX10_takeWanted 8 = .ok (.iload_n 1, 1) := by decide +kernel
theorem dX10_takeWanted_9 : decode cX10_takeWanted 9 = .ok (.aload_n 0, 1) := by decide +kernel
theorem dX10_takeWanted_10 : decode cX10_takeWanted 10 = .ok (.getfield 19, 3) := by decide +kernel
theorem dX10_takeWanted_13 : decode cX10_takeWanted 13 = .ok (.iconst (-1), 1) := by decide +kernel
theorem dX10_takeWanted_14 : decode cX10_takeWanted 14 = .ok (.ixor, 1) := by decide +kernel
theorem dX10_takeWanted_15 : decode cX10_takeWanted 15 = .ok (.iand, 1) := by decide +kernel
theorem dX10_takeWanted_16 : decode cX10_takeWanted 16 = .ok (.iload_n 2, 1) := by decide +kernel
theorem dX10_takeWanted_17 : decode cX10_takeWanted 17 = .ok (.invokestatic 40, 3) := by decide +kernel
theorem dX10_takeWanted_20 : decode cX10_takeWanted 20 = .ok (.ifCond .eq 31, 3) := by decide +kernel
theorem dX10_takeWanted_23 : decode cX10_takeWanted 23 = .ok (.aload_n 0, 1) := by decide +kernel
theorem dX10_takeWanted_24 : decode cX10_takeWanted 24 = .ok (.getfield 28, 3) := by decide +kernel
theorem dX10_takeWanted_27 : decode cX10_takeWanted 27 = .ok (.iload_n 2, 1) := by decide +kernel
theorem dX10_takeWanted_28 : decode cX10_takeWanted 28 = .ok (.invokevirtual 76, 3) := by decide +kernel
theorem dX10_takeWanted_31 : decode cX10_takeWanted 31 = .ok (.aload_n 0, 1) := by decide +kernel
theorem dX10_takeWanted_32 : decode cX10_takeWanted 32 = .ok (.getfield 22, 3) := by decide +kernel
theorem dX10_takeWanted_35 : decode cX10_takeWanted 35 = .ok (.iand, 1) := by decide +kernel
theorem dX10_takeWanted_36 : decode cX10_takeWanted 36 = .ok (.aload_n 0, 1) := by decide +kernel
theorem dX10_takeWanted_37 : decode cX10_takeWanted 37 = .ok (.getfield 25, 3) := by decide +kernel
theorem dX10_takeWanted_40 : decode cX10_takeWanted 40 = .ok (.iconst (-1), 1) := by decide +kernel
theorem dX10_takeWanted_41 : decode cX10_takeWanted 41 = .ok (.ixor, 1) := by decide +kernel
theorem dX10_takeWanted_42 : decode cX10_takeWanted 42 = .ok (.iand, 1) := by decide +kernel
theorem dX10_takeWanted_43 : decode cX10_takeWanted 43 = .ok (.ifCond .eq 8, 3) := by decide +kernel
theorem dX10_takeWanted_46 : decode cX10_takeWanted 46 = .ok (.aload_n 0, 1) := by decide +kernel
theorem dX10_takeWanted_47 : decode cX10_takeWanted 47 = .ok (.iload_n 2, 1) := by decide +kernel
theorem dX10_takeWanted_48 : decode cX10_takeWanted 48 = .ok (.invokevirtual 67, 3) := by decide +kernel
theorem dX10_takeWanted_51 : decode cX10_takeWanted 51 = .ok (.iinc 2 1, 3) := by decide +kernel
theorem dX10_takeWanted_54 : decode cX10_takeWanted 54 = .ok (.goto (-52), 3) := by decide +kernel
theorem dX10_takeWanted_57 : decode cX10_takeWanted 57 = .ok (.return_, 1) := by decide +kernel
def g_X10_takeWanted : Nat → EA := (t_n 27 (t_n 13 (t_n 5 (t_n 2 (t_n 1 (t_l 0 (a_push 1 (.int 0))) (t_l 1 (a_istore 3 1 2))) (t_n 3 (t_l 2 (a_iload 1 2)) (t_l 3 (a_push 2 (.int 10))))) (t_n 9 (t_n 8 (t_l 5 (a_ic 57 (fun x y => decide (y ≤ x)))) (t_l 8 (a_iload 1 1))) (t_n 10 (t_l 9 (a_aload 1 0)) (t_l 10 (a_getf 10 4))))) (t_n 17 (t_n 15 (t_n 14 (t_l 13 (a_push 1 (.int (-1)))) (t_l 14 (a_ii 1 (fun x y => x ^^^ y)))) (t_n 16 (t_l 15 (a_ii 1 (fun x y => x &&& y))) (t_l 16 (a_iload 1 2)))) (t_n 23 (t_n 20 (t_l 17 (a_inv false 196 2 none)) (t_l 20 (a_if 51 (fun x => decide (x = 0))))) (t_n 24 (t_l 23 (a_aload 1 0)) (t_l 24 (a_getf 10 0)))))) (t_n 41 (t_n 35 (t_n 31 (t_n 28 (t_l 27 (a_iload 1 2)) (t_l 28 (a_inv true 92 2 (some 6)))) (t_n 32 (t_l 31 (a_aload 1 0)) (t_l 32 (a_getf 10 5)))) (t_n 37 (t_n 36 (t_l 35 (a_ii 1 (fun x y => x &&& y))) (t_l 36 (a_aload 1 0))) (t_n 40 (t_l 37 (a_getf 10 6)) (t_l 40 (a_push 1 (.int (-1))))))) (t_n 47 (t_n 43 (t_n 42 (t_l 41 (a_ii 1 (fun x y => x ^^^ y))) (t_l 42 (a_ii 1 (fun x y => x &&& y)))) (t_n 46 (t_l 43 (a_if 51 (fun x => decide (x = 0)))) (t_l 46 (a_aload 1 0)))) (t_n 51 (t_n 48 (t_l 47 (a_iload 1 2)) (t_l 48 (a_inv true 157 2 (some 10)))) (t_n 54 (t_l 51 (a_iinc 3 2 1)) (t_n 57 (t_l 54 (a_goto 2)) (t_l 57 a_vret)))))))
set_option maxRecDepth 100000 in
theorem k_X10_takeWanted (sc : Nat × (Nat → Int32)) (d : Nat) : ∀ pc, ev_Ok cX10_takeWanted 3 [] RX10 lw_g lw_n (lw_q sc) vwCl false (ev_CO mt lw_g lw_n (lw_q sc) vwCl d) pc (g_X10_takeWanted pc) := (ok_t_n (ok_t_n (ok_t_n (ok_t_n (ok_t_n (ok_t_l (ok_iconst dX10_takeWanted_0 rfl)) (ok_t_l (ok_istore_n dX10_takeWanted_1 rfl))) (ok_t_n (ok_t_l (ok_iload_n dX10_takeWanted_2 rfl)) (ok_t_l (ok_bipush dX10_takeWanted_3 rfl)))) (ok_t_n (ok_t_n (ok_t_l (ok_icmp_ge dX10_takeWanted_5 rfl)) (ok_t_l (ok_iload_n dX10_takeWanted_8 rfl))) (ok_t_n (ok_t_l (ok_aload_n dX10_takeWanted_9 rfl)) (ok_t_l (ok_getfield dX10_takeWanted_10 (ci := 10) (kf := 4) rfl inGX10 (by decide) w_1138))))) (ok_t_n (ok_t_n (ok_t_n (ok_t_l (ok_iconst dX10_takeWanted_13 rfl)) (ok_t_l (ok_ixor dX10_takeWanted_14))) (ok_t_n (ok_t_l (ok_iand dX10_takeWanted_15)) (ok_t_l (ok_iload_n dX10_takeWanted_16 rfl)))) (ok_t_n (ok_t_n (ok_t_l (ok_inv (run_SN (y := 196) (n := 2) dX10_takeWanted_17 cz_196 gdG cc_196 ci_196 nst_3 cm_196 cd_196 cl_196))) (ok_t_l (ok_if_eq dX10_takeWanted_20 rfl))) (ok_t_n (ok_t_l (ok_aload_n dX10_takeWanted_23 rfl)) (ok_t_l (ok_getfield dX10_takeWanted_24 (ci := 10) (kf := 0) rfl inGX10 (by decide) w_1134)))))) (ok_t_n (ok_t_n (ok_t_n (ok_t_n (ok_t_l (ok_iload_n dX10_takeWanted_27 rfl)) (ok_t_l (ok_inv (run_V (y := 92) (n := 1) (ci := 6) dX10_takeWanted_28 cz_92 gdG cc_92 ci_92 w_314 cm_92 cs_92 cd_92 cl_92 rfl rfl)))) (ok_t_n (ok_t_l (ok_aload_n dX10_takeWanted_31 rfl)) (ok_t_l (ok_getfield dX10_takeWanted_32 (ci := 10) (kf := 5) rfl inGX10 (by decide) w_1139)))) (ok_t_n (ok_t_n (ok_t_l (ok_iand dX10_takeWanted_35)) (ok_t_l (ok_aload_n dX10_takeWanted_36 rfl))) (ok_t_n (ok_t_l (ok_getfield dX10_takeWanted_37 (ci := 10) (kf := 6) rfl inGX10 (by decide) w_1140)) (ok_t_l (ok_iconst dX10_takeWanted_40 rfl))))) (ok_t_n (ok_t_n (ok_t_n (ok_t_l (ok_ixor dX10_takeWanted_41)) (ok_t_l (ok_iand dX10_takeWanted_42))) (ok_t_n (ok_t_l (ok_if_eq dX10_takeWanted_43 rfl)) (ok_t_l (ok_aload_n dX10_takeWanted_46 rfl)))) (ok_t_n (ok_t_n (ok_t_l (ok_iload_n dX10_takeWanted_47 rfl)) (ok_t_l (ok_inv (run_V (y := 157) (n := 1) (ci := 10) dX10_takeWanted_48 cz_157 gdG cc_157 ci_157 w_288 cm_157 cs_157 cd_157 cl_157 rfl rfl)))) (ok_t_n (ok_t_l (ok_iinc dX10_takeWanted_51 rfl)) (ok_t_n (ok_t_l (ok_goto dX10_takeWanted_54 rfl)) (ok_t_l (ok_vreturn dX10_takeWanted_57))))))))
theorem dX10_add_0 : decode cX10_add 0 = .ok (.aload_n 0, 1) := by decide +kernel
theorem dX10_add_1 : decode cX10_add 1 = .ok (.getfield 15, 3) := by decide +kernel
theorem dX10_add_4 : decode cX10_add 4 = .ok (.bipush 10, 2) := by decide +kernel
theorem dX10_add_6 : decode cX10_add 6 = .ok (.if_icmp .lt 4, 3) := by decide +kernel
theorem dX10_add_9 : decode cX10_add 9 = .ok (.return_, 1) := by decide +kernel
theorem dX10_add_10 : decode cX10_add 10 = .ok (.aload_n 0, 1) := by decide +kernel
theorem dX10_add_11 : decode cX10_add 11 = .ok (.getfield 9, 3) := by decide +kernel
theorem dX10_add_14 : decode cX10_add 14 = .ok (.aload_n 0, 1) := by decide +kernel
theorem dX10_add_15 : decode cX10_add 15 = .ok (.getfield 15, 3) := by decide +kernel
theorem dX10_add_18 : decode cX10_add 18 = .ok (.iload_n 1, 1) := by decide +kernel
theorem dX10_add_19 : decode cX10_add 19 = .ok (.iastore, 1) := by decide +kernel
theorem dX10_add_20 : decode cX10_add 20 = .ok (.aload_n 0, 1) := by decide +kernel
theorem dX10_add_21 : decode cX10_add 21 = .ok (.dup, 1) := by decide +kernel
theorem dX10_add_22 : decode cX10_add 22 = .ok (.getfield 15, 3) := by decide +kernel
theorem dX10_add_25 : decode cX10_add 25 = .ok (.iconst 1, 1) := by decide +kernel
theorem dX10_add_26 : decode cX10_add 26 = .ok (.iadd, 1) := by decide +kernel
theorem dX10_add_27 : decode cX10_add 27 = .ok (.putfield 15, 3) := by decide +kernel
theorem dX10_add_30 : decode cX10_add 30 = .ok (.aload_n 0, 1) := by decide +kernel
theorem dX10_add_31 : decode cX10_add 31 = .ok (.dup, 1) := by decide +kernel
theorem dX10_add_32 : decode cX10_add 32 = .ok (.getfield 19, 3) := by decide +kernel
theorem dX10_add_35 : decode cX10_add 35 = .ok (.iconst 1, 1) := by decide +kernel
theorem dX10_add_36 : decode cX10_add 36 = .ok (.iload_n 1, 1) := by decide +kernel
theorem dX10_add_37 : decode cX10_add 37 = .ok (.ishl, 1) := by decide +kernel
theorem dX10_add_38 : decode cX10_add 38 = .ok (.ior, 1) := by decide +kernel
theorem dX10_add_39 : decode cX10_add 39 = .ok (.putfield 19, 3) := by decide +kernel
theorem dX10_add_42 : decode cX10_add 42 = .ok (.aload_n 0, 1) := by decide +kernel
theorem dX10_add_43 : decode cX10_add 43 = .ok (.dup, 1) := by decide +kernel
theorem dX10_add_44 : decode cX10_add 44 = .ok (.getfield 22, 3) := by decide +kernel
theorem dX10_add_47 : decode cX10_add 47 = .ok (.aload_n 0, 1) := by decide +kernel
theorem dX10_add_48 : decode cX10_add 48 = .ok (.getfield 28, 3) := by decide +kernel
theorem dX10_add_51 : decode cX10_add 51 = .ok (.iload_n 1, 1) := by decide +kernel
theorem dX10_add_52 : decode cX10_add 52 = .ok (.invokevirtual 81, 3) := by decide +kernel
theorem dX10_add_55 : decode cX10_add 55 = .ok (.ior, 1) := by decide +kernel
theorem dX10_add_56 : decode cX10_add 56 = .ok (.putfield 22, 3) := by decide +kernel
theorem dX10_add_59 : decode cX10_add 59 = .ok (.aload_n 0, 1) := by decide +kernel
theorem dX10_add_60 : decode cX10_add 60 = .ok (.dup, 1) := by decide +kernel
theorem dX10_add_61 : decode cX10_add 61 = .ok (.getfield 25, 3) := by decide +kernel
theorem dX10_add_64 : decode cX10_add 64 = .ok (.aload_n 0, 1) := by decide +kernel
theorem dX10_add_65 : decode cX10_add 65 = .ok (.getfield 28, 3) := by decide +kernel
theorem dX10_add_68 : decode cX10_add 68 = .ok (.iload_n 1, 1) := by decide +kernel
theorem dX10_add_69 : decode cX10_add 69 = .ok (.invokevirtual 83, 3) := by decide +kernel
theorem dX10_add_72 : decode cX10_add 72 = .ok (.ior, 1) := by decide +kernel
theorem dX10_add_73 : decode cX10_add 73 = .ok (.putfield 25, 3) := by decide +kernel
theorem dX10_add_76 : decode cX10_add 76 = .ok (.return_, 1) := by decide +kernel
def g_X10_add : Nat → EA := (t_n 37 (t_n 20 (t_n 10 (t_n 4 (t_n 1 (t_l 0 (a_aload 1 0)) (t_l 1 (a_getf 10 3))) (t_n 6 (t_l 4 (a_push 2 (.int 10))) (t_n 9 (t_l 6 (a_ic 10 (fun x y => decide (x < y)))) (t_l 9 a_vret)))) (t_n 15 (t_n 11 (t_l 10 (a_aload 1 0)) (t_n 14 (t_l 11 (a_getf 10 2)) (t_l 14 (a_aload 1 0)))) (t_n 18 (t_l 15 (a_getf 10 3)) (t_n 19 (t_l 18 (a_iload 1 1)) (t_l 19 (a_ist 0)))))) (t_n 27 (t_n 22 (t_n 21 (t_l 20 (a_aload 1 0)) (t_l 21 a_dup)) (t_n 25 (t_l 22 (a_getf 10 3)) (t_n 26 (t_l 25 (a_push 1 (.int 1))) (t_l 26 (a_ii 1 (fun x y => x + y)))))) (t_n 32 (t_n 30 (t_l 27 (a_putf 0 10 3)) (t_n 31 (t_l 30 (a_aload 1 0)) (t_l 31 a_dup))) (t_n 35 (t_l 32 (a_getf 10 4)) (t_n 36 (t_l 35 (a_push 1 (.int 1))) (t_l 36 (a_iload 1 1))))))) (t_n 56 (t_n 44 (t_n 39 (t_n 38 (t_l 37 (a_ii 1 (fun x y => x <<< (y &&& 31)))) (t_l 38 (a_ii 1 (fun x y => x ||| y)))) (t_n 42 (t_l 39 (a_putf 0 10 4)) (t_n 43 (t_l 42 (a_aload 1 0)) (t_l 43 a_dup)))) (t_n 51 (t_n 47 (t_l 44 (a_getf 10 5)) (t_n 48 (t_l 47 (a_aload 1 0)) (t_l 48 (a_getf 10 0)))) (t_n 52 (t_l 51 (a_iload 1 1)) (t_n 55 (t_l 52 (a_inv true 93 2 (some 6))) (t_l 55 (a_ii 1 (fun x y => x ||| y))))))) (t_n 65 (t_n 60 (t_n 59 (t_l 56 (a_putf 0 10 5)) (t_l 59 (a_aload 1 0))) (t_n 61 (t_l 60 a_dup) (t_n 64 (t_l 61 (a_getf 10 6)) (t_l 64 (a_aload 1 0))))) (t_n 72 (t_n 68 (t_l 65 (a_getf 10 0)) (t_n 69 (t_l 68 (a_iload 1 1)) (t_l 69 (a_inv true 91 2 (some 6))))) (t_n 73 (t_l 72 (a_ii 1 (fun x y => x ||| y))) (t_n 76 (t_l 73 (a_putf 0 10 6)) (t_l 76 a_vret)))))))
set_option maxRecDepth 100000 in
theorem k_X10_add (sc : Nat × (Nat → Int32)) (d : Nat) : ∀ pc, ev_Ok cX10_add 2 [] RX10 lw_g lw_n (lw_q sc) vwCl false (ev_CO mt lw_g lw_n (lw_q sc) vwCl d) pc (g_X10_add pc) := (ok_t_n (ok_t_n (ok_t_n (ok_t_n (ok_t_n (ok_t_l (ok_aload_n dX10_add_0 rfl)) (ok_t_l (ok_getfield dX10_add_1 (ci := 10) (kf := 3) rfl inGX10 (by decide) w_1137))) (ok_t_n (ok_t_l (ok_bipush dX10_add_4 rfl)) (ok_t_n (ok_t_l (ok_icmp_lt dX10_add_6 rfl)) (ok_t_l (ok_vreturn dX10_add_9))))) (ok_t_n (ok_t_n (ok_t_l (ok_aload_n dX10_add_10 rfl)) (ok_t_n (ok_t_l (ok_getfield dX10_add_11 (ci := 10) (kf := 2) rfl inGX10 (by decide) w_1136)) (ok_t_l (ok_aload_n dX10_add_14 rfl)))) (ok_t_n (ok_t_l (ok_getfield dX10_add_15 (ci := 10) (kf := 3) rfl inGX10 (by decide) w_1137)) (ok_t_n (ok_t_l (ok_iload_n dX10_add_18 rfl)) (ok_t_l (ok_iastore dX10_add_19)))))) (ok_t_n (ok_t_n (ok_t_n (ok_t_l (ok_aload_n dX10_add_20 rfl)) (ok_t_l (ok_dup dX10_add_21))) (ok_t_n (ok_t_l (ok_getfield dX10_add_22 (ci := 10) (kf := 3) rfl inGX10 (by decide) w_1137)) (ok_t_n (ok_t_l (ok_iconst dX10_add_25 rfl)) (ok_t_l (ok_iadd dX10_add_26))))) (ok_t_n (ok_t_n (ok_t_l (ok_putfield dX10_add_27 (ci := 10) (kf := 3) rfl inGX10 (by decide) tyX10_ok nmX10 rfl w_1137 rfl)) (ok_t_n (ok_t_l (ok_aload_n dX10_add_30 rfl)) (ok_t_l (ok_dup dX10_add_31)))) (ok_t_n (ok_t_l (ok_getfield dX10_add_32 (ci := 10) (kf := 4) rfl inGX10 (by decide) w_1138)) (ok_t_n (ok_t_l (ok_iconst dX10_add_35 rfl)) (ok_t_l (ok_iload_n dX10_add_36 rfl))))))) (ok_t_n (ok_t_n (ok_t_n (ok_t_n (ok_t_l (ok_ishl dX10_add_37)) (ok_t_l (ok_ior dX10_add_38))) (ok_t_n (ok_t_l (ok_putfield dX10_add_39 (ci := 10) (kf := 4) rfl inGX10 (by decide) tyX10_ok nmX10 rfl w_1138 rfl)) (ok_t_n (ok_t_l (ok_aload_n dX10_add_42 rfl)) (ok_t_l (ok_dup dX10_add_43))))) (ok_t_n (ok_t_n (ok_t_l (ok_getfield dX10_add_44 (ci := 10) (kf := 5) rfl inGX10 (by decide) w_1139)) (ok_t_n (ok_t_l (ok_aload_n dX10_add_47 rfl)) (ok_t_l (ok_getfield dX10_add_48 (ci := 10) (kf := 0) rfl inGX10 (by decide) w_1134)))) (ok_t_n (ok_t_l (ok_iload_n dX10_add_51 rfl)) (ok_t_n (ok_t_l (ok_inv (run_V (y := 93) (n := 1) (ci := 6) dX10_add_52 cz_93 gdG cc_93 ci_93 w_292 cm_93 cs_93 cd_93 cl_93 rfl rfl))) (ok_t_l (ok_ior dX10_add_55)))))) (ok_t_n (ok_t_n (ok_t_n (ok_t_l (ok_putfield dX10_add_56 (ci := 10) (kf := 5) rfl inGX10 (by decide) tyX10_ok nmX10 rfl w_1139 rfl)) (ok_t_l (ok_aload_n dX10_add_59 rfl))) (ok_t_n (ok_t_l (ok_dup dX10_add_60)) (ok_t_n (ok_t_l (ok_getfield dX10_add_61 (ci := 10) (kf := 6) rfl inGX10 (by decide) w_1140)) (ok_t_l (ok_aload_n dX10_add_64 rfl))))) (ok_t_n (ok_t_n (ok_t_l (ok_getfield dX10_add_65 (ci := 10) (kf := 0) rfl inGX10 (by decide) w_1134)) (ok_t_n (ok_t_l (ok_iload_n dX10_add_68 rfl)) (ok_t_l (ok_inv (run_V (y := 91) (n := 1) (ci := 6) dX10_add_69 cz_91 gdG cc_91 ci_91 w_296 cm_91 cs_91 cd_91 cl_91 rfl rfl))))) (ok_t_n (ok_t_l (ok_ior dX10_add_72)) (ok_t_n (ok_t_l (ok_putfield dX10_add_73 (ci := 10) (kf := 6) rfl inGX10 (by decide) tyX10_ok nmX10 rfl w_1140 rfl)) (ok_t_l (ok_vreturn dX10_add_76))))))))
theorem dX11_init_0 : decode cX11_init 0 = .ok (.aload_n 0, 1) := by decide +kernel
theorem dX11_init_1 : decode cX11_init 1 = .ok (.invokespecial 3, 3) := by decide +kernel
theorem dX11_init_4 : decode cX11_init 4 = .ok (.aload_n 0, 1) := by decide +kernel
theorem dX11_init_5 : decode cX11_init 5 = .ok (.new 9, 3) := by decide +kernel
theorem dX11_init_8 : decode cX11_init 8 = .ok (.dup, 1) := by decide +kernel
theorem dX11_init_9 : decode cX11_init 9 = .ok (.invokespecial 11, 3) := by decide +kernel
theorem dX11_init_12 : decode cX11_init 12 = .ok (.putfield 12, 3) := by decide +kernel
theorem dX11_init_15 : decode cX11_init 15 = .ok (.aload_n 0, 1) := by decide +kernel
theorem dX11_init_16 : decode cX11_init 16 = .ok (.new 16, 3) := by decide +kernel
theorem dX11_init_19 : decode cX11_init 19 = .ok (.dup, 1) := by decide +kernel
theorem dX11_init_20 : decode cX11_init 20 = .ok (.invokespecial 18, 3) := by decide +kernel
theorem dX11_init_23 : decode cX11_init 23 = .ok (.putfield 19, 3) := by decide +kernel
theorem dX11_init_26 : decode cX11_init 26 = .ok (.aload_n 0, 1) := by decide +kernel
theorem dX11_init_27 : decode cX11_init 27 = .ok (.new 23, 3) := by decide +kernel
theorem dX11_init_30 : decode cX11_init 30 = .ok (.dup, 1) := by decide +kernel
theorem dX11_init_31 : decode cX11_init 31 = .ok (.invokespecial 25, 3) := by decide +kernel
theorem dX11_init_34 : decode cX11_init 34 = .ok (.putfield 26, 3) := by decide +kernel
theorem dX11_init_37 : decode cX11_init 37 = .ok (.aload_n 0, 1) := by decide +kernel
theorem dX11_init_38 : decode cX11_init 38 = .ok (.new 30, 3) := by decide +kernel
theorem dX11_init_41 : decode cX11_init 41 = .ok (.dup, 1) := by decide +kernel
theorem dX11_init_42 : decode cX11_init 42 = .ok (.invokespecial 32, 3) := by decide +kernel
theorem dX11_init_45 : decode cX11_init 45 = .ok (.putfield 33, 3) := by decide +kernel
theorem dX11_init_48 : decode cX11_init 48 = .ok (.aload_n 0, 1) := by decide +kernel
theorem dX11_init_49 : decode cX11_init 49 = .ok (.new 37, 3) := by decide +kernel
theorem dX11_init_52 : decode cX11_init 52 = .ok (.dup, 1) := by decide +kernel
theorem dX11_init_53 : decode cX11_init 53 = .ok (.invokespecial 39, 3) := by decide +kernel
theorem dX11_init_56 : decode cX11_init 56 = .ok (.putfield 40, 3) := by decide +kernel
theorem dX11_init_59 : decode cX11_init 59 = .ok (.aload_n 0, 1) := by decide +kernel
theorem dX11_init_60 : decode cX11_init 60 = .ok (.bipush 40, 2) := by decide +kernel
theorem dX11_init_62 : decode cX11_init 62 = .ok (.putfield 44, 3) := by decide +kernel
theorem dX11_init_65 : decode cX11_init 65 = .ok (.aload_n 0, 1) := by decide +kernel
theorem dX11_init_66 : decode cX11_init 66 = .ok (.sipush 9999, 3) := by decide +kernel
theorem dX11_init_69 : decode cX11_init 69 = .ok (.putfield 48, 3) := by decide +kernel
theorem dX11_init_72 : decode cX11_init 72 = .ok (.aload_n 0, 1) := by decide +kernel
theorem dX11_init_73 : decode cX11_init 73 = .ok (.new 51, 3) := by decide +kernel
theorem dX11_init_76 : decode cX11_init 76 = .ok (.dup, 1) := by decide +kernel
theorem dX11_init_77 : decode cX11_init 77 = .ok (.aload_n 0, 1) := by decide +kernel
theorem dX11_init_78 : decode cX11_init 78 = .ok (.getfield 12, 3) := by decide +kernel
theorem dX11_init_81 : decode cX11_init 81 = .ok (.aload_n 0, 1) := by decide +kernel
theorem dX11_init_82 : decode cX11_init 82 = .ok (.getfield 19, 3) := by decide +kernel
theorem dX11_init_85 : decode cX11_init 85 = .ok (.aload_n 0, 1) := by decide +kernel
theorem dX11_init_86 : decode cX11_init 86 = .ok (.getfield 26, 3) := by decide +kernel
theorem dX11_init_89 : decode cX11_init 89 = .ok (.invokespecial 53, 3) := by decide +kernel
theorem dX11_init_92 : decode cX11_init 92 = .ok (.putfield 56, 3) := by decide +kernel
theorem dX11_init_95 : decode cX11_init 95 = .ok (.aload_n 0, 1) := by decide +kernel
theorem dX11_init_96 : decode cX11_init 96 = .ok (.new 51, 3) := by decide +kernel
theorem dX11_init_99 : decode cX11_init 99 = .ok (.dup, 1) := by decide +kernel
theorem dX11_init_100 : decode cX11_init 100 = .ok (.aload_n 0, 1) := by decide +kernel
theorem dX11_init_101 : decode cX11_init 101 = .ok (.getfield 12, 3) := by decide +kernel
theorem dX11_init_104 : decode cX11_init 104 = .ok (.aload_n 0, 1) := by decide +kernel
theorem dX11_init_105 : decode cX11_init 105 = .ok (.getfield 19, 3) := by decide +kernel
theorem dX11_init_108 : decode cX11_init 108 = .ok (.aload_n 0, 1) := by decide +kernel
theorem dX11_init_109 : decode cX11_init 109 = .ok (.getfield 26, 3) := by decide +kernel
theorem dX11_init_112 : decode cX11_init 112 = .ok (.invokespecial 53, 3) := by decide +kernel
theorem dX11_init_115 : decode cX11_init 115 = .ok (.putfield 60, 3) := by decide +kernel
theorem dX11_init_118 : decode cX11_init 118 = .ok (.return_, 1) := by decide +kernel
def g_X11_init : Nat → EA := (t_n 60 (t_n 30 (t_n 15 (t_n 5 (t_n 1 (t_l 0 (a_aload 1 0)) (t_n 4 (t_l 1 a_objI) (t_l 4 (a_aload 1 0)))) (t_n 9 (t_n 8 (t_l 5 (a_new 6 10 [.null, .null, .null, .null, .null, .null, .null, .null, .null, .int 0])) (t_l 8 a_dup)) (t_n 12 (t_l 9 (a_inv false 85 1 (some 6))) (t_l 12 (a_putf 9 11 0))))) (t_n 20 (t_n 16 (t_l 15 (a_aload 1 0)) (t_n 19 (t_l 16 (a_new 8 9 [.null, .null, .null, .null, .null, .null, .null, .null, .int 0])) (t_l 19 a_dup))) (t_n 26 (t_n 23 (t_l 20 (a_inv false 116 1 (some 8))) (t_l 23 (a_putf 9 11 1))) (t_n 27 (t_l 26 (a_aload 1 0)) (t_l 27 (a_new 2 3 [.null, .null, .int 0])))))) (t_n 45 (t_n 37 (t_n 31 (t_l 30 a_dup) (t_n 34 (t_l 31 (a_inv false 9 1 (some 2))) (t_l 34 (a_putf 9 11 2)))) (t_n 41 (t_n 38 (t_l 37 (a_aload 1 0)) (t_l 38 (a_new 4 16 [.null, .null, .null, .null, .null, .null, .null, .null, .null, .null, .null, .null, .int 0, .int 0, .int 0, .int 0]))) (t_n 42 (t_l 41 a_dup) (t_l 42 (a_inv false 40 1 (some 4)))))) (t_n 52 (t_n 48 (t_l 45 (a_putf 9 11 3)) (t_n 49 (t_l 48 (a_aload 1 0)) (t_l 49 (a_new 1 1 [.null])))) (t_n 56 (t_n 53 (t_l 52 a_dup) (t_l 53 (a_inv false 5 1 (some 1)))) (t_n 59 (t_l 56 (a_putf 9 11 4)) (t_l 59 (a_aload 1 0))))))) (t_n 89 (t_n 76 (t_n 66 (t_n 62 (t_l 60 (a_push 2 (.int 40))) (t_n 65 (t_l 62 (a_putf 0 11 7)) (t_l 65 (a_aload 1 0)))) (t_n 72 (t_n 69 (t_l 66 (a_push 3 (.int 9999))) (t_l 69 (a_putf 0 11 8))) (t_n 73 (t_l 72 (a_aload 1 0)) (t_l 73 (a_new 5 9 [.null, .null, .null, .null, .null, .null, .int 0, .int 0, .int 0]))))) (t_n 81 (t_n 77 (t_l 76 a_dup) (t_n 78 (t_l 77 (a_aload 1 0)) (t_l 78 (a_getf 11 0)))) (t_n 85 (t_n 82 (t_l 81 (a_aload 1 0)) (t_l 82 (a_getf 11 1))) (t_n 86 (t_l 85 (a_aload 1 0)) (t_l 86 (a_getf 11 2)))))) (t_n 104 (t_n 96 (t_n 92 (t_l 89 (a_inv false 76 4 (some 5))) (t_n 95 (t_l 92 (a_putf 9 11 5)) (t_l 95 (a_aload 1 0)))) (t_n 100 (t_n 99 (t_l 96 (a_new 5 9 [.null, .null, .null, .null, .null, .null, .int 0, .int 0, .int 0])) (t_l 99 a_dup)) (t_n 101 (t_l 100 (a_aload 1 0)) (t_l 101 (a_getf 11 0))))) (t_n 109 (t_n 105 (t_l 104 (a_aload 1 0)) (t_n 108 (t_l 105 (a_getf 11 1)) (t_l 108 (a_aload 1 0)))) (t_n 115 (t_n 112 (t_l 109 (a_getf 11 2)) (t_l 112 (a_inv false 76 4 (some 5)))) (t_n 118 (t_l 115 (a_putf 9 11 6)) (t_l 118 a_vret)))))))
set_option maxRecDepth 100000 in
theorem k_X11_init (sc : Nat × (Nat → Int32)) (d : Nat) : ∀ pc, ev_Ok cX11_init 1 [] RX11 lw_g lw_n (lw_q sc) vwCl true (ev_CO mt lw_g lw_n (lw_q sc) vwCl d) pc (g_X11_init pc) := (ok_t_n (ok_t_n (ok_t_n (ok_t_n (ok_t_n (ok_t_l (ok_aload_n dX11_init_0 rfl)) (ok_t_n (ok_t_l (ok_objinit dX11_init_1 w_959 w_94 w_obj ev_CO.small)) (ok_t_l (ok_aload_n dX11_init_4 rfl)))) (ok_t_n (ok_t_n (ok_t_l (ok_new dX11_init_5 (ci := 6) rfl inGX6 tyX6 tyX6_ok w_960 w_961 w_40 (by decide +kernel) rfl)) (ok_t_l (ok_dup dX11_init_8))) (ok_t_n (ok_t_l (ok_inv (run_IN (y := 85) (n := 0) (ci := 6) dX11_init_9 cz_85 gdG cc_85 ci_85 nst_17 cm_85 rfl rfl cd_85 cl_85))) (ok_t_l (ok_putfieldF dX11_init_12 (ci := 11) (kf := 0) rfl inGX11 (by decide) tyX11_ok nmX11 rfl w_1306 rfl rfl rfl))))) (ok_t_n (ok_t_n (ok_t_l (ok_aload_n dX11_init_15 rfl)) (ok_t_n (ok_t_l (ok_new dX11_init_16 (ci := 8) rfl inGX8 tyX8 tyX8_ok w_997 w_438 w_41 (by decide +kernel) rfl)) (ok_t_l (ok_dup dX11_init_19)))) (ok_t_n (ok_t_n (ok_t_l (ok_inv (run_IN (y := 116) (n := 0) (ci := 8) dX11_init_20 cz_116 gdG cc_116 ci_116 nst_18 cm_116 rfl rfl cd_116 cl_116))) (ok_t_l (ok_putfieldF dX11_init_23 (ci := 11) (kf := 1) rfl inGX11 (by decide) tyX11_ok nmX11 rfl w_1307 rfl rfl rfl))) (ok_t_n (ok_t_l (ok_aload_n dX11_init_26 rfl)) (ok_t_l (ok_new dX11_init_27 (ci := 2) rfl inGX2 tyX2 tyX2_ok w_1031 w_1032 w_42 (by decide +kernel) rfl)))))) (ok_t_n (ok_t_n (ok_t_n (ok_t_l (ok_dup dX11_init_30)) (ok_t_n (ok_t_l (ok_inv (run_IN (y := 9) (n := 0) (ci := 2) dX11_init_31 cz_9 gdG cc_9 ci_9 nst_19 cm_9 rfl rfl cd_9 cl_9))) (ok_t_l (ok_putfieldF dX11_init_34 (ci := 11) (kf := 2) rfl inGX11 (by decide) tyX11_ok nmX11 rfl w_1308 rfl rfl rfl)))) (ok_t_n (ok_t_n (ok_t_l (ok_aload_n dX11_init_37 rfl)) (ok_t_l (ok_new dX11_init_38 (ci := 4) rfl inGX4 tyX4 tyX4_ok w_1047 w_700 w_43 (by decide +kernel) rfl))) (ok_t_n (ok_t_l (ok_dup dX11_init_41)) (ok_t_l (ok_inv (run_I (y := 40) (n := 0) (ci := 4) dX11_init_42 cz_40 gdG cc_40 ci_40 w_1048 cm_40 rfl rfl cd_40 cl_40)))))) (ok_t_n (ok_t_n (ok_t_l (ok_putfieldF dX11_init_45 (ci := 11) (kf := 3) rfl inGX11 (by decide) tyX11_ok nmX11 rfl w_1309 rfl rfl rfl)) (ok_t_n (ok_t_l (ok_aload_n dX11_init_48 rfl)) (ok_t_l (ok_new dX11_init_49 (ci := 1) rfl inGX1 tyX1 tyX1_ok w_1101 w_1102 w_44 (by decide +kernel) rfl)))) (ok_t_n (ok_t_n (ok_t_l (ok_dup dX11_init_52)) (ok_t_l (ok_inv (run_IN (y := 5) (n := 0) (ci := 1) dX11_init_53 cz_5 gdG cc_5 ci_5 nst_20 cm_5 rfl rfl cd_5 cl_5)))) (ok_t_n (ok_t_l (ok_putfieldF dX11_init_56 (ci := 11) (kf := 4) rfl inGX11 (by decide) tyX11_ok nmX11 rfl w_1310 rfl rfl rfl)) (ok_t_l (ok_aload_n dX11_init_59 rfl))))))) (ok_t_n (ok_t_n (ok_t_n (ok_t_n (ok_t_l (ok_bipush dX11_init_60 rfl)) (ok_t_n (ok_t_l (ok_putfield dX11_init_62 (ci := 11) (kf := 7) rfl inGX11 (by decide) tyX11_ok nmX11 rfl w_1313 rfl)) (ok_t_l (ok_aload_n dX11_init_65 rfl)))) (ok_t_n (ok_t_n (ok_t_l (ok_sipush dX11_init_66 rfl)) (ok_t_l (ok_putfield dX11_init_69 (ci := 11) (kf := 8) rfl inGX11 (by decide) tyX11_ok nmX11 rfl w_1314 rfl))) (ok_t_n (ok_t_l (ok_aload_n dX11_init_72 rfl)) (ok_t_l (ok_new dX11_init_73 (ci := 5) rfl inGX5 tyX5 tyX5_ok w_1111 w_540 w_45 (by decide +kernel) rfl))))) (ok_t_n (ok_t_n (ok_t_l (ok_dup dX11_init_76)) (ok_t_n (ok_t_l (ok_aload_n dX11_init_77 rfl)) (ok_t_l (ok_getfield dX11_init_78 (ci := 11) (kf := 0) rfl inGX11 (by decide) w_1306)))) (ok_t_n (ok_t_n (ok_t_l (ok_aload_n dX11_init_81 rfl)) (ok_t_l (ok_getfield dX11_init_82 (ci := 11) (kf := 1) rfl inGX11 (by decide) w_1307))) (ok_t_n (ok_t_l (ok_aload_n dX11_init_85 rfl)) (ok_t_l (ok_getfield dX11_init_86 (ci := 11) (kf := 2) rfl inGX11 (by decide) w_1308)))))) (ok_t_n (ok_t_n (ok_t_n (ok_t_l (ok_inv (run_I (y := 76) (n := 3) (ci := 5) dX11_init_89 cz_76 gdG cc_76 ci_76 w_1112 cm_76 rfl rfl cd_76 cl_76))) (ok_t_n (ok_t_l (ok_putfieldF dX11_init_92 (ci := 11) (kf := 5) rfl inGX11 (by decide) tyX11_ok nmX11 rfl w_1311 rfl rfl rfl)) (ok_t_l (ok_aload_n dX11_init_95 rfl)))) (ok_t_n (ok_t_n (ok_t_l (ok_new dX11_init_96 (ci := 5) rfl inGX5 tyX5 tyX5_ok w_1111 w_540 w_45 (by decide +kernel) rfl)) (ok_t_l (ok_dup dX11_init_99))) (ok_t_n (ok_t_l (ok_aload_n dX11_init_100 rfl)) (ok_t_l (ok_getfield dX11_init_101 (ci := 11) (kf := 0) rfl inGX11 (by decide) w_1306))))) (ok_t_n (ok_t_n (ok_t_l (ok_aload_n dX11_init_104 rfl)) (ok_t_n (ok_t_l (ok_getfield dX11_init_105 (ci := 11) (kf := 1) rfl inGX11 (by decide) w_1307)) (ok_t_l (ok_aload_n dX11_init_108 rfl)))) (ok_t_n (ok_t_n (ok_t_l (ok_getfield dX11_init_109 (ci := 11) (kf := 2) rfl inGX11 (by decide) w_1308)) (ok_t_l (ok_inv (run_I (y := 76) (n := 3) (ci := 5) dX11_init_112 cz_76 gdG cc_76 ci_76 w_1112 cm_76 rfl rfl cd_76 cl_76)))) (ok_t_n (ok_t_l (ok_putfieldF dX11_init_115 (ci := 11) (kf := 6) rfl inGX11 (by decide) tyX11_ok nmX11 rfl w_1312 rfl rfl rfl)) (ok_t_l (ok_vreturn dX11_init_118))))))))
theorem dX11_object_0 : decode cX11_object 0 = .ok (.aload_n 0, 1) := by decide +kernel
theorem dX11_object_1 : decode cX11_object 1 = .ok (.getfield 12, 3) := by decide +kernel
theorem dX11_object_4 : decode cX11_object 4 = .ok (.invokevirtual 63, 3) := by decide +kernel
theorem dX11_object_7 : decode cX11_object 7 = .ok (.ifCond .eq 13, 3) := by decide +kernel
theorem dX11_object_10 : decode cX11_object 10 = .ok (.new 67, 3) := by decide +kernel
theorem dX11_object_13 : decode cX11_object 13 = .ok (.dup, 1) := by decide +kernel
theorem dX11_object_14 : decode cX11_object 14 = .ok (.ldc 69, 2) := by decide +kernel
theorem dX11_object_16 : decode cX11_object 16 = .ok (.invokespecial 71, 3) := by decide +kernel
theorem dX11_object_19 : decode cX11_object 19 = .ok (.athrow, 1) := by decide +kernel
theorem dX11_object_20 : decode cX11_object 20 = .ok (.aload_n 0, 1) := by decide +kernel
theorem dX11_object_21 : decode cX11_object 21 = .ok (.getfield 12, 3) := by decide +kernel
theorem dX11_object_24 : decode cX11_object 24 = .ok (.invokevirtual 74, 3) := by decide +kernel
theorem dX11_object_27 : decode cX11_object 27 = .ok (.ireturn, 1) := by decide +kernel
def g_X11_object : Nat → EA := (t_n 13 (t_n 4 (t_n 1 (t_l 0 (a_aload 1 0)) (t_l 1 (a_getf 11 0))) (t_n 7 (t_l 4 (a_inv true 87 1 (some 6))) (t_l 7 (a_if 20 (fun x => decide (x = 0)))))) (t_n 21 (t_n 20 (t_l 13 a_dup) (t_l 20 (a_aload 1 0))) (t_n 24 (t_l 21 (a_getf 11 0)) (t_n 27 (t_l 24 (a_inv true 90 1 (some 6))) (t_l 27 a_iret)))))
set_option maxRecDepth 100000 in
theorem k_X11_object (sc : Nat × (Nat → Int32)) (d : Nat) : ∀ pc, ev_Ok cX11_object 1 [] RX11 lw_g lw_n (lw_q sc) vwCl false (ev_CO mt lw_g lw_n (lw_q sc) vwCl d) pc (g_X11_object pc) := (ok_t_n (ok_t_n (ok_t_n (ok_t_l (ok_aload_n dX11_object_0 rfl)) (ok_t_l (ok_getfield dX11_object_1 (ci := 11) (kf := 0) rfl inGX11 (by decide) w_1306))) (ok_t_n (ok_t_l (ok_inv (run_V (y := 87) (n := 0) (ci := 6) dX11_object_4 cz_87 gdG cc_87 ci_87 w_64 cm_87 cs_87 cd_87 cl_87 rfl rfl))) (ok_t_l (ok_if_eq dX11_object_7 rfl)))) (ok_t_n (ok_t_n (ok_t_l (ok_dup dX11_object_13)) (ok_t_l (ok_aload_n dX11_object_20 rfl))) (ok_t_n (ok_t_l (ok_getfield dX11_object_21 (ci := 11) (kf := 0) rfl inGX11 (by decide) w_1306)) (ok_t_n (ok_t_l (ok_inv (run_V (y := 90) (n := 0) (ci := 6) dX11_object_24 cz_90 gdG cc_90 ci_90 w_138 cm_90 cs_90 cd_90 cl_90 rfl rfl))) (ok_t_l (ok_ireturn dX11_object_27))))))
theorem dX11_section_0 : decode cX11_section 0 = .ok (.aload_n 0, 1) := by decide +kernel
theorem dX11_section_1 : decode cX11_section 1 = .ok (.getfield 12, 3) := by decide +kernel
theorem dX11_section_4 : decode cX11_section 4 = .ok (.iload_n 1, 1) := by decide +kernel
theorem dX11_section_5 : decode cX11_section 5 = .ok (.invokevirtual 78, 3) := by decide +kernel
theorem dX11_section_8 : decode cX11_section 8 = .ok (.ifCond .ne 13, 3) := by decide +kernel
theorem dX11_section_11 : decode cX11_section 11 = .ok (.new 82, 3) := by decide +kernel
theorem dX11_section_14 : decode cX11_section 14 = .ok (.dup, 1) := by decide +kernel
theorem dX11_section_15 : decode cX11_section 15 = .ok (.ldc 84, 2) := by decide +kernel
theorem dX11_section_17 : decode cX11_section 17 = .ok (.invokespecial 86, 3) := by decide +kernel
theorem dX11_section_20 : decode cX11_section 20 = .ok (.athrow, 1) := by decide +kernel
theorem dX11_section_21 : decode cX11_section 21 = .ok (.iload_n 2, 1) := by decide +kernel
theorem dX11_section_22 : decode cX11_section 22 = .ok (.invokestatic 87, 3) := by decide +kernel
theorem dX11_section_25 : decode cX11_section 25 = .ok (.ifCond .ne 13, 3) := by decide +kernel
theorem dX11_section_28 : decode cX11_section 28 = .ok (.new 90, 3) := by decide +kernel
theorem dX11_section_31 : decode cX11_section 31 = .ok (.dup, 1) := by decide +kernel
theorem dX11_section_32 : decode cX11_section 32 = .ok (.ldc 92, 2) := by decide +kernel
theorem dX11_section_34 : decode cX11_section 34 = .ok (.invokespecial 94, 3) := by decide +kernel
theorem dX11_section_37 : decode cX11_section 37 = .ok (.athrow, 1) := by decide +kernel
theorem dX11_section_38 : decode cX11_section 38 = .ok (.aload_n 0, 1) := by decide +kernel
theorem dX11_section_39 : decode cX11_section 39 = .ok (.getfield 19, 3) := by decide +kernel
theorem dX11_section_42 : decode cX11_section 42 = .ok (.invokevirtual 95, 3) := by decide +kernel
theorem dX11_section_45 : decode cX11_section 45 = .ok (.ifCond .eq 13, 3) := by decide +kernel
theorem dX11_section_48 : decode cX11_section 48 = .ok (.new 67, 3) := by decide +kernel
theorem dX11_section_51 : decode cX11_section 51 = .ok (.dup, 1) := by decide +kernel
theorem dX11_section_52 : decode cX11_section 52 = .ok (.ldc 96, 2) := by decide +kernel
theorem dX11_section_54 : decode cX11_section 54 = .ok (.invokespecial 71, 3) := by decide +kernel
theorem dX11_section_57 : decode cX11_section 57 = .ok (.athrow, 1) := by decide +kernel
theorem dX11_section_58 : decode cX11_section 58 = .ok (.aload_n 0, 1) := by decide +kernel
theorem dX11_section_59 : decode cX11_section 59 = .ok (.getfield 19, 3) := by decide +kernel
theorem dX11_section_62 : decode cX11_section 62 = .ok (.iload_n 1, 1) := by decide +kernel
theorem dX11_section_63 : decode cX11_section 63 = .ok (.iload_n 2, 1) := by decide +kernel
theorem dX11_section_64 : decode cX11_section 64 = .ok (.iload_n 3, 1) := by decide +kernel
theorem dX11_section_65 : decode cX11_section 65 = .ok (.invokevirtual 98, 3) := by decide +kernel
theorem dX11_section_68 : decode cX11_section 68 = .ok (.ireturn, 1) := by decide +kernel
def g_X11_section : Nat → EA := (t_n 39 (t_n 14 (t_n 4 (t_n 1 (t_l 0 (a_aload 1 0)) (t_l 1 (a_getf 11 0))) (t_n 5 (t_l 4 (a_iload 1 1)) (t_n 8 (t_l 5 (a_inv true 88 2 (some 6))) (t_l 8 (a_if 21 (fun x => !decide (x = 0))))))) (t_n 25 (t_n 21 (t_l 14 a_dup) (t_n 22 (t_l 21 (a_iload 1 2)) (t_l 22 (a_inv true 194 1 none)))) (t_n 31 (t_l 25 (a_if 38 (fun x => !decide (x = 0)))) (t_n 38 (t_l 31 a_dup) (t_l 38 (a_aload 1 0)))))) (t_n 59 (t_n 45 (t_n 42 (t_l 39 (a_getf 11 1)) (t_l 42 (a_inv true 118 1 (some 8)))) (t_n 51 (t_l 45 (a_if 58 (fun x => decide (x = 0)))) (t_n 58 (t_l 51 a_dup) (t_l 58 (a_aload 1 0))))) (t_n 64 (t_n 62 (t_l 59 (a_getf 11 1)) (t_n 63 (t_l 62 (a_iload 1 1)) (t_l 63 (a_iload 1 2)))) (t_n 65 (t_l 64 (a_iload 1 3)) (t_n 68 (t_l 65 (a_inv true 120 4 (some 8))) (t_l 68 a_iret))))))
set_option maxRecDepth 100000 in
theorem k_X11_section (sc : Nat × (Nat → Int32)) (d : Nat) : ∀ pc, ev_Ok cX11_section 4 [] RX11 lw_g lw_n (lw_q sc) vwCl false (ev_CO mt lw_g lw_n (lw_q sc) vwCl d) pc (g_X11_section pc) := (ok_t_n (ok_t_n (ok_t_n (ok_t_n (ok_t_l (ok_aload_n dX11_section_0 rfl)) (ok_t_l (ok_getfield dX11_section_1 (ci := 11) (kf := 0) rfl inGX11 (by decide) w_1306))) (ok_t_n (ok_t_l (ok_iload_n dX11_section_4 rfl)) (ok_t_n (ok_t_l (ok_inv (run_V (y := 88) (n := 1) (ci := 6) dX11_section_5 cz_88 gdG cc_88 ci_88 w_146 cm_88 cs_88 cd_88 cl_88 rfl rfl))) (ok_t_l (ok_if_ne dX11_section_8 rfl))))) (ok_t_n (ok_t_n (ok_t_l (ok_dup dX11_section_14)) (ok_t_n (ok_t_l (ok_iload_n dX11_section_21 rfl)) (ok_t_l (ok_inv (run_S (y := 194) (n := 1) dX11_section_22 cz_194 gdG cc_194 ci_194 w_166 cm_194 cd_194 cl_194))))) (ok_t_n (ok_t_l (ok_if_ne dX11_section_25 rfl)) (ok_t_n (ok_t_l (ok_dup dX11_section_31)) (ok_t_l (ok_aload_n dX11_section_38 rfl)))))) (ok_t_n (ok_t_n (ok_t_n (ok_t_l (ok_getfield dX11_section_39 (ci := 11) (kf := 1) rfl inGX11 (by decide) w_1307)) (ok_t_l (ok_inv (run_V (y := 118) (n := 0) (ci := 8) dX11_section_42 cz_118 gdG cc_118 ci_118 w_185 cm_118 cs_118 cd_118 cl_118 rfl rfl)))) (ok_t_n (ok_t_l (ok_if_eq dX11_section_45 rfl)) (ok_t_n (ok_t_l (ok_dup dX11_section_51)) (ok_t_l (ok_aload_n dX11_section_58 rfl))))) (ok_t_n (ok_t_n (ok_t_l (ok_getfield dX11_section_59 (ci := 11) (kf := 1) rfl inGX11 (by decide) w_1307)) (ok_t_n (ok_t_l (ok_iload_n dX11_section_62 rfl)) (ok_t_l (ok_iload_n dX11_section_63 rfl)))) (ok_t_n (ok_t_l (ok_iload_n dX11_section_64 rfl)) (ok_t_n (ok_t_l (ok_inv (run_V (y := 120) (n := 3) (ci := 8) dX11_section_65 cz_120 gdG cc_120 ci_120 w_190 cm_120 cs_120 cd_120 cl_120 rfl rfl))) (ok_t_l (ok_ireturn dX11_section_68)))))))
theorem dX11_fill_0 : decode cX11_fill 0 = .ok (.aload_n 0, 1) := by decide +kernel
theorem dX11_fill_1 : decode cX11_fill 1 = .ok (.getfield 19, 3) := by decide +kernel
theorem dX11_fill_4 : decode cX11_fill 4 = .ok (.iload_n 1, 1) := by decide +kernel
theorem dX11_fill_5 : decode cX11_fill 5 = .ok (.invokevirtual 101, 3) := by decide +kernel
theorem dX11_fill_8 : decode cX11_fill 8 = .ok (.ifCond .ne 13, 3) := by decide +kernel
theorem dX11_fill_11 : decode cX11_fill 11 = .ok (.new 82, 3) := by decide +kernel
theorem dX11_fill_14 : decode cX11_fill 14 = .ok (.dup, 1) := by decide +kernel
theorem dX11_fill_15 : decode cX11_fill 15 = .ok (.ldc 102, 2) := by decide +kernel
theorem dX11_fill_17 : decode cX11_fill 17 = .ok (.invokespecial 86, 3) := by decide +kernel
theorem dX11_fill_20 : decode cX11_fill 20 = .ok (.athrow, 1) := by decide +kernel
theorem dX11_fill_21 : decode cX11_fill 21 = .ok (.iload_n 2, 1) := by decide +kernel
theorem dX11_fill_22 : decode cX11_fill 22 = .ok (.iconst 1, 1) := by decide +kernel
theorem dX11_fill_23 : decode cX11_fill 23 = .ok (.if_icmp .lt 9, 3) := by decide +kernel
theorem dX11_fill_26 : decode cX11_fill 26 = .ok (.iload_n 2, 1) := by decide +kernel
theorem dX11_fill_27 : decode cX11_fill 27 = .ok (.bipush 40, 2) := by decide +kernel
theorem dX11_fill_29 : decode cX11_fill 29 = .ok (.if_icmp .le 13, 3) := by decide +kernel
theorem dX11_fill_32 : decode cX11_fill 32 = .ok (.new 90, 3) := by decide +kernel
theorem dX11_fill_35 : decode cX11_fill 35 = .ok (.dup, 1) := by decide +kernel
theorem dX11_fill_36 : decode cX11_fill 36 = .ok (.ldc 104, 2) := by decide +kernel
theorem dX11_fill_38 : decode cX11_fill 38 = .ok (.invokespecial 94, 3) := by decide +kernel
theorem dX11_fill_41 : decode cX11_fill 41 = .ok (.athrow, 1) := by decide +kernel
theorem dX11_fill_42 : decode cX11_fill 42 = .ok (.aload_n 0, 1) := by decide +kernel
theorem dX11_fill_43 : decode cX11_fill 43 = .ok (.getfield 19, 3) := by decide +kernel
theorem dX11_fill_46 : decode cX11_fill 46 = .ok (.iload_n 1, 1) := by decide +kernel
theorem dX11_fill_47 : decode cX11_fill 47 = .ok (.invokevirtual 106, 3) := by decide +kernel
theorem dX11_fill_50 : decode cX11_fill 50 = .ok (.ifCond .eq 13, 3) := by decide +kernel
theorem dX11_fill_53 : decode cX11_fill 53 = .ok (.new 67, 3) := by decide +kernel
theorem dX11_fill_56 : decode cX11_fill 56 = .ok (.dup, 1) := by decide +kernel
theorem dX11_fill_57 : decode cX11_fill 57 = .ok (.ldc 109, 2) := by decide +kernel
theorem dX11_fill_59 : decode cX11_fill 59 = .ok (.invokespecial 71, 3) := by decide +kernel
theorem dX11_fill_62 : decode cX11_fill 62 = .ok (.athrow, 1) := by decide +kernel
theorem dX11_fill_63 : decode cX11_fill 63 = .ok (.aload_n 0, 1) := by decide +kernel
theorem dX11_fill_64 : decode cX11_fill 64 = .ok (.getfield 19, 3) := by decide +kernel
theorem dX11_fill_67 : decode cX11_fill 67 = .ok (.iload_n 1, 1) := by decide +kernel
theorem dX11_fill_68 : decode cX11_fill 68 = .ok (.iconst 0, 1) := by decide +kernel
theorem dX11_fill_69 : decode cX11_fill 69 = .ok (.iload_n 2, 1) := by decide +kernel
theorem dX11_fill_70 : decode cX11_fill 70 = .ok (.iconst 0, 1) := by decide +kernel
theorem dX11_fill_71 : decode cX11_fill 71 = .ok (.iconst 0, 1) := by decide +kernel
theorem dX11_fill_72 : decode cX11_fill 72 = .ok (.invokevirtual 111, 3) := by decide +kernel
theorem dX11_fill_75 : decode cX11_fill 75 = .ok (.ireturn, 1) := by decide +kernel
def g_X11_fill : Nat → EA := (t_n 43 (t_n 22 (t_n 5 (t_n 1 (t_l 0 (a_aload 1 0)) (t_n 4 (t_l 1 (a_getf 11 1)) (t_l 4 (a_iload 1 1)))) (t_n 14 (t_n 8 (t_l 5 (a_inv true 119 2 (some 8))) (t_l 8 (a_if 21 (fun x => !decide (x = 0))))) (t_n 21 (t_l 14 a_dup) (t_l 21 (a_iload 1 2))))) (t_n 27 (t_n 23 (t_l 22 (a_push 1 (.int 1))) (t_n 26 (t_l 23 (a_ic 32 (fun x y => decide (x < y)))) (t_l 26 (a_iload 1 2)))) (t_n 35 (t_n 29 (t_l 27 (a_push 2 (.int 40))) (t_l 29 (a_ic 42 (fun x y => decide (x ≤ y))))) (t_n 42 (t_l 35 a_dup) (t_l 42 (a_aload 1 0)))))) (t_n 67 (t_n 50 (t_n 46 (t_l 43 (a_getf 11 1)) (t_n 47 (t_l 46 (a_iload 1 1)) (t_l 47 (a_inv true 121 2 (some 8))))) (t_n 63 (t_n 56 (t_l 50 (a_if 63 (fun x => decide (x = 0)))) (t_l 56 a_dup)) (t_n 64 (t_l 63 (a_aload 1 0)) (t_l 64 (a_getf 11 1))))) (t_n 70 (t_n 68 (t_l 67 (a_iload 1 1)) (t_n 69 (t_l 68 (a_push 1 (.int 0))) (t_l 69 (a_iload 1 2)))) (t_n 72 (t_n 71 (t_l 70 (a_push 1 (.int 0))) (t_l 71 (a_push 1 (.int 0)))) (t_n 75 (t_l 72 (a_inv true 122 6 (some 8))) (t_l 75 a_iret))))))
set_option maxRecDepth 100000 in
theorem k_X11_fill (sc : Nat × (Nat → Int32)) (d : Nat) : ∀ pc, ev_Ok cX11_fill 3 [] RX11 lw_g lw_n (lw_q sc) vwCl false (ev_CO mt lw_g lw_n (lw_q sc) vwCl d) pc (g_X11_fill pc) := (ok_t_n (ok_t_n (ok_t_n (ok_t_n (ok_t_l (ok_aload_n dX11_fill_0 rfl)) (ok_t_n (ok_t_l (ok_getfield dX11_fill_1 (ci := 11) (kf := 1) rfl inGX11 (by decide) w_1307)) (ok_t_l (ok_iload_n dX11_fill_4 rfl)))) (ok_t_n (ok_t_n (ok_t_l (ok_inv (run_V (y := 119) (n := 1) (ci := 8) dX11_fill_5 cz_119 gdG cc_119 ci_119 w_619 cm_119 cs_119 cd_119 cl_119 rfl rfl))) (ok_t_l (ok_if_ne dX11_fill_8 rfl))) (ok_t_n (ok_t_l (ok_dup dX11_fill_14)) (ok_t_l (ok_iload_n dX11_fill_21 rfl))))) (ok_t_n (ok_t_n (ok_t_l (ok_iconst dX11_fill_22 rfl)) (ok_t_n (ok_t_l (ok_icmp_lt dX11_fill_23 rfl)) (ok_t_l (ok_iload_n dX11_fill_26 rfl)))) (ok_t_n (ok_t_n (ok_t_l (ok_bipush dX11_fill_27 rfl)) (ok_t_l (ok_icmp_le dX11_fill_29 rfl))) (ok_t_n (ok_t_l (ok_dup dX11_fill_35)) (ok_t_l (ok_aload_n dX11_fill_42 rfl)))))) (ok_t_n (ok_t_n (ok_t_n (ok_t_l (ok_getfield dX11_fill_43 (ci := 11) (kf := 1) rfl inGX11 (by decide) w_1307)) (ok_t_n (ok_t_l (ok_iload_n dX11_fill_46 rfl)) (ok_t_l (ok_inv (run_V (y := 121) (n := 1) (ci := 8) dX11_fill_47 cz_121 gdG cc_121 ci_121 w_1445 cm_121 cs_121 cd_121 cl_121 rfl rfl))))) (ok_t_n (ok_t_n (ok_t_l (ok_if_eq dX11_fill_50 rfl)) (ok_t_l (ok_dup dX11_fill_56))) (ok_t_n (ok_t_l (ok_aload_n dX11_fill_63 rfl)) (ok_t_l (ok_getfield dX11_fill_64 (ci := 11) (kf := 1) rfl inGX11 (by decide) w_1307))))) (ok_t_n (ok_t_n (ok_t_l (ok_iload_n dX11_fill_67 rfl)) (ok_t_n (ok_t_l (ok_iconst dX11_fill_68 rfl)) (ok_t_l (ok_iload_n dX11_fill_69 rfl)))) (ok_t_n (ok_t_n (ok_t_l (ok_iconst dX11_fill_70 rfl)) (ok_t_l (ok_iconst dX11_fill_71 rfl))) (ok_t_n (ok_t_l (ok_inv (run_V (y := 122) (n := 5) (ci := 8) dX11_fill_72 cz_122 gdG cc_122 ci_122 w_1451 cm_122 cs_122 cd_122 cl_122 rfl rfl))) (ok_t_l (ok_ireturn dX11_fill_75)))))))
theorem dX11_word_0 : decode cX11_word 0 = .ok (.aload_n 0, 1) := by decide +kernel
theorem dX11_word_1 : decode cX11_word 1 = .ok (.getfield 19, 3) := by decide +kernel
theorem dX11_word_4 : decode cX11_word 4 = .ok (.iload_n 1, 1) := by decide +kernel
theorem dX11_word_5 : decode cX11_word 5 = .ok (.invokevirtual 101, 3) := by decide +kernel
theorem dX11_word_8 : decode cX11_word 8 = .ok (.ifCond .ne 13, 3) := by decide +kernel
theorem dX11_word_11 : decode cX11_word 11 = .ok (.new 82, 3) := by decide +kernel
theorem dX11_word_14 : decode cX11_word 14 = .ok (.dup, 1) := by decide +kernel
theorem dX11_word_15 : decode cX11_word 15 = .ok (.ldc 102, 2) := by decide +kernel
theorem dX11_word_17 : decode cX11_word 17 = .ok (.invokespecial 86, 3) := by decide +kernel
theorem dX11_word_20 : decode cX11_word 20 = .ok (.athrow, 1) := by decide +kernel
theorem dX11_word_21 : decode cX11_word 21 = .ok (.iload_n 2, 1) := by decide +kernel
theorem dX11_word_22 : decode cX11_word 22 = .ok (.invokestatic 115, 3) := by decide +kernel
theorem dX11_word_25 : decode cX11_word 25 = .ok (.ifCond .eq 15, 3) := by decide +kernel
theorem dX11_word_28 : decode cX11_word 28 = .ok (.iload_n 3, 1) := by decide +kernel
theorem dX11_word_29 : decode cX11_word 29 = .ok (.bipush (-50), 2) := by decide +kernel
theorem dX11_word_31 : decode cX11_word 31 = .ok (.if_icmp .lt 9, 3) := by decide +kernel
theorem dX11_word_34 : decode cX11_word 34 = .ok (.iload_n 3, 1) := by decide +kernel
theorem dX11_word_35 : decode cX11_word 35 = .ok (.bipush 50, 2) := by decide +kernel
theorem dX11_word_37 : decode cX11_word 37 = .ok (.if_icmp .le 13, 3) := by decide +kernel
theorem dX11_word_40 : decode cX11_word 40 = .ok (.new 90, 3) := by decide +kernel
theorem dX11_word_43 : decode cX11_word 43 = .ok (.dup, 1) := by decide +kernel
theorem dX11_word_44 : decode cX11_word 44 = .ok (.ldc 118, 2) := by decide +kernel
theorem dX11_word_46 : decode cX11_word 46 = .ok (.invokespecial 94, 3) := by decide +kernel
theorem dX11_word_49 : decode cX11_word 49 = .ok (.athrow, 1) := by decide +kernel
theorem dX11_word_50 : decode cX11_word 50 = .ok (.aload_n 0, 1) := by decide +kernel
theorem dX11_word_51 : decode cX11_word 51 = .ok (.getfield 19, 3) := by decide +kernel
theorem dX11_word_54 : decode cX11_word 54 = .ok (.iload_n 1, 1) := by decide +kernel
theorem dX11_word_55 : decode cX11_word 55 = .ok (.invokevirtual 106, 3) := by decide +kernel
theorem dX11_word_58 : decode cX11_word 58 = .ok (.ifCond .eq 13, 3) := by decide +kernel
theorem dX11_word_61 : decode cX11_word 61 = .ok (.new 67, 3) := by decide +kernel
theorem dX11_word_64 : decode cX11_word 64 = .ok (.dup, 1) := by decide +kernel
theorem dX11_word_65 : decode cX11_word 65 = .ok (.ldc 109, 2) := by decide +kernel
theorem dX11_word_67 : decode cX11_word 67 = .ok (.invokespecial 71, 3) := by decide +kernel
theorem dX11_word_70 : decode cX11_word 70 = .ok (.athrow, 1) := by decide +kernel
theorem dX11_word_71 : decode cX11_word 71 = .ok (.aload_n 0, 1) := by decide +kernel
theorem dX11_word_72 : decode cX11_word 72 = .ok (.iload_n 1, 1) := by decide +kernel
theorem dX11_word_73 : decode cX11_word 73 = .ok (.iconst 1, 1) := by decide +kernel
theorem dX11_word_74 : decode cX11_word 74 = .ok (.iload_n 2, 1) := by decide +kernel
theorem dX11_word_75 : decode cX11_word 75 = .ok (.iload_n 3, 1) := by decide +kernel
theorem dX11_word_76 : decode cX11_word 76 = .ok (.iload 4, 2) := by decide +kernel
theorem dX11_word_78 : decode cX11_word 78 = .ok (.invokevirtual 120, 3) := by decide +kernel
theorem dX11_word_81 : decode cX11_word 81 = .ok (.ireturn, 1) := by decide +kernel
def g_X11_word : Nat → EA := (t_n 43 (t_n 22 (t_n 5 (t_n 1 (t_l 0 (a_aload 1 0)) (t_n 4 (t_l 1 (a_getf 11 1)) (t_l 4 (a_iload 1 1)))) (t_n 14 (t_n 8 (t_l 5 (a_inv true 119 2 (some 8))) (t_l 8 (a_if 21 (fun x => !decide (x = 0))))) (t_n 21 (t_l 14 a_dup) (t_l 21 (a_iload 1 2))))) (t_n 31 (t_n 28 (t_n 25 (t_l 22 (a_inv true 193 1 none)) (t_l 25 (a_if 40 (fun x => decide (x = 0))))) (t_n 29 (t_l 28 (a_iload 1 3)) (t_l 29 (a_push 2 (.int (-50)))))) (t_n 35 (t_n 34 (t_l 31 (a_ic 40 (fun x y => decide (x < y)))) (t_l 34 (a_iload 1 3))) (t_n 37 (t_l 35 (a_push 2 (.int 50))) (t_l 37 (a_ic 50 (fun x y => decide (x ≤ y)))))))) (t_n 71 (t_n 54 (t_n 50 (t_l 43 a_dup) (t_n 51 (t_l 50 (a_aload 1 0)) (t_l 51 (a_getf 11 1)))) (t_n 58 (t_n 55 (t_l 54 (a_iload 1 1)) (t_l 55 (a_inv true 121 2 (some 8)))) (t_n 64 (t_l 58 (a_if 71 (fun x => decide (x = 0)))) (t_l 64 a_dup)))) (t_n 75 (t_n 73 (t_n 72 (t_l 71 (a_aload 1 0)) (t_l 72 (a_iload 1 1))) (t_n 74 (t_l 73 (a_push 1 (.int 1))) (t_l 74 (a_iload 1 2)))) (t_n 78 (t_n 76 (t_l 75 (a_iload 1 3)) (t_l 76 (a_iload 2 4))) (t_n 81 (t_l 78 (a_inv true 198 6 (some 11))) (t_l 81 a_iret))))))
set_option maxRecDepth 100000 in
theorem k_X11_word (sc : Nat × (Nat → Int32)) (d : Nat) : ∀ pc, ev_Ok cX11_word 5 [] RX11 lw_g lw_n (lw_q sc) vwCl false (ev_CO mt lw_g lw_n (lw_q sc) vwCl d) pc (g_X11_word pc) := (ok_t_n (ok_t_n (ok_t_n (ok_t_n (ok_t_l (ok_aload_n dX11_word_0 rfl)) (ok_t_n (ok_t_l (ok_getfield dX11_word_1 (ci := 11) (kf := 1) rfl inGX11 (by decide) w_1307)) (ok_t_l (ok_iload_n dX11_word_4 rfl)))) (ok_t_n (ok_t_n (ok_t_l (ok_inv (run_V (y := 119) (n := 1) (ci := 8) dX11_word_5 cz_119 gdG cc_119 ci_119 w_619 cm_119 cs_119 cd_119 cl_119 rfl rfl))) (ok_t_l (ok_if_ne dX11_word_8 rfl))) (ok_t_n (ok_t_l (ok_dup dX11_word_14)) (ok_t_l (ok_iload_n dX11_word_21 rfl))))) (ok_t_n (ok_t_n (ok_t_n (ok_t_l (ok_inv (run_S (y := 193) (n := 1) dX11_word_22 cz_193 gdG cc_193 ci_193 w_199 cm_193 cd_193 cl_193))) (ok_t_l (ok_if_eq dX11_word_25 rfl))) (ok_t_n (ok_t_l (ok_iload_n dX11_word_28 rfl)) (ok_t_l (ok_bipush dX11_word_29 rfl)))) (ok_t_n (ok_t_n (ok_t_l (ok_icmp_lt dX11_word_31 rfl)) (ok_t_l (ok_iload_n dX11_word_34 rfl))) (ok_t_n (ok_t_l (ok_bipush dX11_word_35 rfl)) (ok_t_l (ok_icmp_le dX11_word_37 rfl)))))) (ok_t_n (ok_t_n (ok_t_n (ok_t_l (ok_dup dX11_word_43)) (ok_t_n (ok_t_l (ok_aload_n dX11_word_50 rfl)) (ok_t_l (ok_getfield dX11_word_51 (ci := 11) (kf := 1) rfl inGX11 (by decide) w_1307)))) (ok_t_n (ok_t_n (ok_t_l (ok_iload_n dX11_word_54 rfl)) (ok_t_l (ok_inv (run_V (y := 121) (n := 1) (ci := 8) dX11_word_55 cz_121 gdG cc_121 ci_121 w_1445 cm_121 cs_121 cd_121 cl_121 rfl rfl)))) (ok_t_n (ok_t_l (ok_if_eq dX11_word_58 rfl)) (ok_t_l (ok_dup dX11_word_64))))) (ok_t_n (ok_t_n (ok_t_n (ok_t_l (ok_aload_n dX11_word_71 rfl)) (ok_t_l (ok_iload_n dX11_word_72 rfl))) (ok_t_n (ok_t_l (ok_iconst dX11_word_73 rfl)) (ok_t_l (ok_iload_n dX11_word_74 rfl)))) (ok_t_n (ok_t_n (ok_t_l (ok_iload_n dX11_word_75 rfl)) (ok_t_l (ok_iload dX11_word_76))) (ok_t_n (ok_t_l (ok_inv (run_V (y := 198) (n := 5) (ci := 11) dX11_word_78 cz_198 gdG cc_198 ci_198 w_1461 cm_198 cs_198 cd_198 cl_198 rfl rfl))) (ok_t_l (ok_ireturn dX11_word_81)))))))
theorem dX11_jump_0 : decode cX11_jump 0 = .ok (.aload_n 0, 1) := by decide +kernel
theorem dX11_jump_1 : decode cX11_jump 1 = .ok (.getfield 19, 3) := by decide +kernel
theorem dX11_jump_4 : decode cX11_jump 4 = .ok (.iload_n 1, 1) := by decide +kernel
theorem dX11_jump_5 : decode cX11_jump 5 = .ok (.invokevirtual 101, 3) := by decide +kernel
theorem dX11_jump_8 : decode cX11_jump 8 = .ok (.ifCond .ne 13, 3) := by decide +kernel
theorem dX11_jump_11 : decode cX11_jump 11 = .ok (.new 82, 3) := by decide +kernel
theorem dX11_jump_14 : decode cX11_jump 14 = .ok (.dup, 1) := by decide +kernel
theorem dX11_jump_15 : decode cX11_jump 15 = .ok (.ldc 102, 2) := by decide +kernel
theorem dX11_jump_17 : decode cX11_jump 17 = .ok (.invokespecial 86, 3) := by decide +kernel
theorem dX11_jump_20 : decode cX11_jump 20 = .ok (.athrow, 1) := by decide +kernel
theorem dX11_jump_21 : decode cX11_jump 21 = .ok (.iload_n 2, 1) := by decide +kernel
theorem dX11_jump_22 : decode cX11_jump 22 = .ok (.invokestatic 115, 3) := by decide +kernel
theorem dX11_jump_25 : decode cX11_jump 25 = .ok (.ifCond .ne 13, 3) := by decide +kernel
theorem dX11_jump_28 : decode cX11_jump 28 = .ok (.new 90, 3) := by decide +kernel
theorem dX11_jump_31 : decode cX11_jump 31 = .ok (.dup, 1) := by decide +kernel
theorem dX11_jump_32 : decode cX11_jump 32 = .ok (.ldc 123, 2) := by decide +kernel
theorem dX11_jump_34 : decode cX11_jump 34 = .ok (.invokespecial 94, 3) := by decide +kernel
theorem dX11_jump_37 : decode cX11_jump 37 = .ok (.athrow, 1) := by decide +kernel
theorem dX11_jump_38 : decode cX11_jump 38 = .ok (.aload_n 0, 1) := by decide +kernel
theorem dX11_jump_39 : decode cX11_jump 39 = .ok (.getfield 19, 3) := by decide +kernel
theorem dX11_jump_42 : decode cX11_jump 42 = .ok (.iload_n 1, 1) := by decide +kernel
theorem dX11_jump_43 : decode cX11_jump 43 = .ok (.invokevirtual 106, 3) := by decide +kernel
theorem dX11_jump_46 : decode cX11_jump 46 = .ok (.ifCond .eq 13, 3) := by decide +kernel
theorem dX11_jump_49 : decode cX11_jump 49 = .ok (.new 67, 3) := by decide +kernel
theorem dX11_jump_52 : decode cX11_jump 52 = .ok (.dup, 1) := by decide +kernel
theorem dX11_jump_53 : decode cX11_jump 53 = .ok (.ldc 109, 2) := by decide +kernel
theorem dX11_jump_55 : decode cX11_jump 55 = .ok (.invokespecial 71, 3) := by decide +kernel
theorem dX11_jump_58 : decode cX11_jump 58 = .ok (.athrow, 1) := by decide +kernel
theorem dX11_jump_59 : decode cX11_jump 59 = .ok (.aload_n 0, 1) := by decide +kernel
theorem dX11_jump_60 : decode cX11_jump 60 = .ok (.iload_n 1, 1) := by decide +kernel
theorem dX11_jump_61 : decode cX11_jump 61 = .ok (.iconst 2, 1) := by decide +kernel
theorem dX11_jump_62 : decode cX11_jump 62 = .ok (.iload_n 2, 1) := by decide +kernel
theorem dX11_jump_63 : decode cX11_jump 63 = .ok (.iconst 0, 1) := by decide +kernel
theorem dX11_jump_64 : decode cX11_jump 64 = .ok (.iload_n 3, 1) := by decide +kernel
theorem dX11_jump_65 : decode cX11_jump 65 = .ok (.invokevirtual 120, 3) := by decide +kernel
theorem dX11_jump_68 : decode cX11_jump 68 = .ok (.ireturn, 1) := by decide +kernel
def g_X11_jump : Nat → EA := (t_n 42 (t_n 21 (t_n 5 (t_n 1 (t_l 0 (a_aload 1 0)) (t_n 4 (t_l 1 (a_getf 11 1)) (t_l 4 (a_iload 1 1)))) (t_n 8 (t_l 5 (a_inv true 119 2 (some 8))) (t_n 14 (t_l 8 (a_if 21 (fun x => !decide (x = 0)))) (t_l 14 a_dup)))) (t_n 31 (t_n 22 (t_l 21 (a_iload 1 2)) (t_n 25 (t_l 22 (a_inv true 193 1 none)) (t_l 25 (a_if 38 (fun x => !decide (x = 0)))))) (t_n 38 (t_l 31 a_dup) (t_n 39 (t_l 38 (a_aload 1 0)) (t_l 39 (a_getf 11 1)))))) (t_n 61 (t_n 52 (t_n 43 (t_l 42 (a_iload 1 1)) (t_n 46 (t_l 43 (a_inv true 121 2 (some 8))) (t_l 46 (a_if 59 (fun x => decide (x = 0)))))) (t_n 59 (t_l 52 a_dup) (t_n 60 (t_l 59 (a_aload 1 0)) (t_l 60 (a_iload 1 1))))) (t_n 64 (t_n 62 (t_l 61 (a_push 1 (.int 2))) (t_n 63 (t_l 62 (a_iload 1 2)) (t_l 63 (a_push 1 (.int 0))))) (t_n 65 (t_l 64 (a_iload 1 3)) (t_n 68 (t_l 65 (a_inv true 198 6 (some 11))) (t_l 68 a_iret))))))
set_option maxRecDepth 100000 in
theorem k_X11_jump (sc : Nat × (Nat → Int32)) (d : Nat) : ∀ pc, ev_Ok cX11_jump 4 [] RX11 lw_g lw_n (lw_q sc) vwCl false (ev_CO mt lw_g lw_n (lw_q sc) vwCl d) pc (g_X11_jump pc) := (ok_t_n (ok_t_n (ok_t_n (ok_t_n (ok_t_l (ok_aload_n dX11_jump_0 rfl)) (ok_t_n (ok_t_l (ok_getfield dX11_jump_1 (ci := 11) (kf := 1) rfl inGX11 (by decide) w_1307)) (ok_t_l (ok_iload_n dX11_jump_4 rfl)))) (ok_t_n (ok_t_l (ok_inv (run_V (y := 119) (n := 1) (ci := 8) dX11_jump_5 cz_119 gdG cc_119 ci_119 w_619 cm_119 cs_119 cd_119 cl_119 rfl rfl))) (ok_t_n (ok_t_l (ok_if_ne dX11_jump_8 rfl)) (ok_t_l (ok_dup dX11_jump_14))))) (ok_t_n (ok_t_n (ok_t_l (ok_iload_n dX11_jump_21 rfl)) (ok_t_n (ok_t_l (ok_inv (run_S (y := 193) (n := 1) dX11_jump_22 cz_193 gdG cc_193 ci_193 w_199 cm_193 cd_193 cl_193))) (ok_t_l (ok_if_ne dX11_jump_25 rfl)))) (ok_t_n (ok_t_l (ok_dup dX11_jump_31)) (ok_t_n (ok_t_l (ok_aload_n dX11_jump_38 rfl)) (ok_t_l (ok_getfield dX11_jump_39 (ci := 11) (kf := 1) rfl inGX11 (by decide) w_1307)))))) (ok_t_n (ok_t_n (ok_t_n (ok_t_l (ok_iload_n dX11_jump_42 rfl)) (ok_t_n (ok_t_l (ok_inv (run_V (y := 121) (n := 1) (ci := 8) dX11_jump_43 cz_121 gdG cc_121 ci_121 w_1445 cm_121 cs_121 cd_121 cl_121 rfl rfl))) (ok_t_l (ok_if_eq dX11_jump_46 rfl)))) (ok_t_n (ok_t_l (ok_dup dX11_jump_52)) (ok_t_n (ok_t_l (ok_aload_n dX11_jump_59 rfl)) (ok_t_l (ok_iload_n dX11_jump_60 rfl))))) (ok_t_n (ok_t_n (ok_t_l (ok_iconst dX11_jump_61 rfl)) (ok_t_n (ok_t_l (ok_iload_n dX11_jump_62 rfl)) (ok_t_l (ok_iconst dX11_jump_63 rfl)))) (ok_t_n (ok_t_l (ok_iload_n dX11_jump_64 rfl)) (ok_t_n (ok_t_l (ok_inv (run_V (y := 198) (n := 5) (ci := 11) dX11_jump_65 cz_198 gdG cc_198 ci_198 w_1461 cm_198 cs_198 cd_198 cl_198 rfl rfl))) (ok_t_l (ok_ireturn dX11_jump_68)))))))
theorem dX11_define_0 : decode cX11_define 0 = .ok (.aload_n 0, 1) := by decide +kernel
theorem dX11_define_1 : decode cX11_define 1 = .ok (.getfield 19, 3) := by decide +kernel
theorem dX11_define_4 : decode cX11_define 4 = .ok (.iload_n 1, 1) := by decide +kernel
theorem dX11_define_5 : decode cX11_define 5 = .ok (.invokevirtual 101, 3) := by decide +kernel
theorem dX11_define_8 : decode cX11_define 8 = .ok (.ifCond .ne 13, 3) := by decide +kernel
theorem dX11_define_11 : decode cX11_define 11 = .ok (.new 82, 3) := by decide +kernel
theorem dX11_define_14 : decode cX11_define 14 = .ok (.dup, 1) := by decide +kernel
theorem dX11_define_15 : decode cX11_define 15 = .ok (.ldc 102, 2) := by decide +kernel
theorem dX11_define_17 : decode cX11_define 17 = .ok (.invokespecial 86, 3) := by decide +kernel
theorem dX11_define_20 : decode cX11_define 20 = .ok (.athrow, 1) := by decide +kernel
theorem dX11_define_21 : decode cX11_define 21 = .ok (.iload_n 2, 1) := by decide +kernel
theorem dX11_define_22 : decode cX11_define 22 = .ok (.invokestatic 115, 3) := by decide +kernel
theorem dX11_define_25 : decode cX11_define 25 = .ok (.ifCond .ne 13, 3) := by decide +kernel
theorem dX11_define_28 : decode cX11_define 28 = .ok (.new 90, 3) := by decide +kernel
theorem dX11_define_31 : decode cX11_define 31 = .ok (.dup, 1) := by decide +kernel
theorem dX11_define_32 : decode cX11_define 32 = .ok (.ldc 123, 2) := by decide +kernel
theorem dX11_define_34 : decode cX11_define 34 = .ok (.invokespecial 94, 3) := by decide +kernel
theorem dX11_define_37 : decode cX11_define 37 = .ok (.athrow, 1) := by decide +kernel
theorem dX11_define_38 : decode cX11_define 38 = .ok (.aload_n 0, 1) := by decide +kernel
theorem dX11_define_39 : decode cX11_define 39 = .ok (.getfield 19, 3) := by decide +kernel
theorem dX11_define_42 : decode cX11_define 42 = .ok (.iload_n 1, 1) := by decide +kernel
theorem dX11_define_43 : decode cX11_define 43 = .ok (.invokevirtual 125, 3) := by decide +kernel
theorem dX11_define_46 : decode cX11_define 46 = .ok (.istore 5, 2) := by decide +kernel
theorem dX11_define_48 : decode cX11_define 48 = .ok (.aload_n 0, 1) := by decide +kernel
theorem dX11_define_49 : decode cX11_define 49 = .ok (.getfield 12, 3) := by decide +kernel
theorem dX11_define_52 : decode cX11_define 52 = .ok (.iload 5, 2) := by decide +kernel
theorem dX11_define_54 : decode cX11_define 54 = .ok (.iload_n 2, 1) := by decide +kernel
theorem dX11_define_55 : decode cX11_define 55 = .ok (.invokevirtual 129, 3) := by decide +kernel
theorem dX11_define_58 : decode cX11_define 58 = .ok (.iconst (-1), 1) := by decide +kernel
theorem dX11_define_59 : decode cX11_define 59 = .ok (.if_icmp .eq 13, 3) := by decide +kernel
theorem dX11_define_62 : decode cX11_define 62 = .ok (.new 67, 3) := by decide +kernel
theorem dX11_define_65 : decode cX11_define 65 = .ok (.dup, 1) := by decide +kernel
theorem dX11_define_66 : decode cX11_define 66 = .ok (.ldc 133, 2) := by decide +kernel
theorem dX11_define_68 : decode cX11_define 68 = .ok (.invokespecial 71, 3) := by decide +kernel
theorem dX11_define_71 : decode cX11_define 71 = .ok (.athrow, 1) := by decide +kernel
theorem dX11_define_72 : decode cX11_define 72 = .ok (.aload_n 0, 1) := by decide +kernel
theorem dX11_define_73 : decode cX11_define 73 = .ok (.getfield 19, 3) := by decide +kernel
theorem dX11_define_76 : decode cX11_define 76 = .ok (.iload_n 1, 1) := by decide +kernel
theorem dX11_define_77 : decode cX11_define 77 = .ok (.invokevirtual 135, 3) := by decide +kernel
theorem dX11_define_80 : decode cX11_define 80 = .ok (.istore 6, 2) := by decide +kernel
theorem dX11_define_82 : decode cX11_define 82 = .ok (.aload_n 0, 1) := by decide +kernel
theorem dX11_define_83 : decode cX11_define 83 = .ok (.getfield 12, 3) := by decide +kernel
theorem dX11_define_86 : decode cX11_define 86 = .ok (.iload 5, 2) := by decide +kernel
theorem dX11_define_88 : decode cX11_define 88 = .ok (.iload_n 2, 1) := by decide +kernel
theorem dX11_define_89 : decode cX11_define 89 = .ok (.iload_n 3, 1) := by decide +kernel
theorem dX11_define_90 : decode cX11_define 90 = .ok (.ifCond .eq 7, 3) := by decide +kernel
theorem dX11_define_93 : decode cX11_define 93 = .ok (.iconst 2, 1) := by decide +kernel
theorem dX11_define_94 : decode cX11_define 94 = .ok (.goto 4, 3) := by decide +kernel
theorem dX11_define_97 : decode cX11_define 97 = .ok (.iconst 0, 1) := by decide +kernel
theorem dX11_define_98 : decode cX11_define 98 = .ok (.iload_n 1, 1) := by decide +kernel
theorem dX11_define_99 : decode cX11_define 99 = .ok (.iload 6, 2) := by decide +kernel
theorem dX11_define_101 : decode cX11_define 101 = .ok (.invokevirtual 138, 3) := by decide +kernel
theorem dX11_define_104 : decode cX11_define 104 = .ok (.iload 4, 2) := by decide +kernel
theorem dX11_define_106 : decode cX11_define 106 = .ok (.ifCond .eq 13, 3) := by decide +kernel
theorem dX11_define_109 : decode cX11_define 109 = .ok (.aload_n 0, 1) := by decide +kernel
theorem dX11_define_110 : decode cX11_define 110 = .ok (.getfield 12, 3) := by decide +kernel
theorem dX11_define_113 : decode cX11_define 113 = .ok (.iload 5, 2) := by decide +kernel
theorem dX11_define_115 : decode cX11_define 115 = .ok (.iload_n 2, 1) := by decide +kernel
theorem dX11_define_116 : decode cX11_define 116 = .ok (.invokevirtual 142, 3) := by decide +kernel
theorem dX11_define_119 : decode cX11_define 119 = .ok (.iload 6, 2) := by decide +kernel
theorem dX11_define_121 : decode cX11_define 121 = .ok (.ireturn, 1) := by decide +kernel
def g_X11_define : Nat → EA := (t_n 73 (t_n 42 (t_n 21 (t_n 5 (t_n 1 (t_l 0 (a_aload 1 0)) (t_n 4 (t_l 1 (a_getf 11 1)) (t_l 4 (a_iload 1 1)))) (t_n 8 (t_l 5 (a_inv true 119 2 (some 8))) (t_n 14 (t_l 8 (a_if 21 (fun x => !decide (x = 0)))) (t_l 14 a_dup)))) (t_n 31 (t_n 22 (t_l 21 (a_iload 1 2)) (t_n 25 (t_l 22 (a_inv true 193 1 none)) (t_l 25 (a_if 38 (fun x => !decide (x = 0)))))) (t_n 38 (t_l 31 a_dup) (t_n 39 (t_l 38 (a_aload 1 0)) (t_l 39 (a_getf 11 1)))))) (t_n 54 (t_n 48 (t_n 43 (t_l 42 (a_iload 1 1)) (t_n 46 (t_l 43 (a_inv true 123 2 (some 8))) (t_l 46 (a_istore 7 2 5)))) (t_n 49 (t_l 48 (a_aload 1 0)) (t_n 52 (t_l 49 (a_getf 11 0)) (t_l 52 (a_iload 2 5))))) (t_n 59 (t_n 55 (t_l 54 (a_iload 1 2)) (t_n 58 (t_l 55 (a_inv true 98 3 (some 6))) (t_l 58 (a_push 1 (.int (-1)))))) (t_n 65 (t_l 59 (a_ic 72 (fun x y => decide (x = y)))) (t_n 72 (t_l 65 a_dup) (t_l 72 (a_aload 1 0))))))) (t_n 97 (t_n 86 (t_n 80 (t_n 76 (t_l 73 (a_getf 11 1)) (t_n 77 (t_l 76 (a_iload 1 1)) (t_l 77 (a_inv true 126 2 (some 8))))) (t_n 82 (t_l 80 (a_istore 7 2 6)) (t_n 83 (t_l 82 (a_aload 1 0)) (t_l 83 (a_getf 11 0))))) (t_n 90 (t_n 88 (t_l 86 (a_iload 2 5)) (t_n 89 (t_l 88 (a_iload 1 2)) (t_l 89 (a_iload 1 3)))) (t_n 93 (t_l 90 (a_if 97 (fun x => decide (x = 0)))) (t_n 94 (t_l 93 (a_push 1 (.int 2))) (t_l 94 (a_goto 98)))))) (t_n 109 (t_n 101 (t_n 98 (t_l 97 (a_push 1 (.int 0))) (t_n 99 (t_l 98 (a_iload 1 1)) (t_l 99 (a_iload 2 6)))) (t_n 104 (t_l 101 (a_inv true 95 6 (some 6))) (t_n 106 (t_l 104 (a_iload 2 4)) (t_l 106 (a_if 119 (fun x => decide (x = 0))))))) (t_n 115 (t_n 110 (t_l 109 (a_aload 1 0)) (t_n 113 (t_l 110 (a_getf 11 0)) (t_l 113 (a_iload 2 5)))) (t_n 119 (t_n 116 (t_l 115 (a_iload 1 2)) (t_l 116 (a_inv true 96 3 (some 6)))) (t_n 121 (t_l 119 (a_iload 2 6)) (t_l 121 a_iret)))))))
set_option maxRecDepth 100000 in
theorem k_X11_define (sc : Nat × (Nat → Int32)) (d : Nat) : ∀ pc, ev_Ok cX11_define 7 [] RX11 lw_g lw_n (lw_q sc) vwCl false (ev_CO mt lw_g lw_n (lw_q sc) vwCl d) pc (g_X11_define pc) := (ok_t_n (ok_t_n (ok_t_n (ok_t_n (ok_t_n (ok_t_l (ok_aload_n dX11_define_0 rfl)) (ok_t_n (ok_t_l (ok_getfield dX11_define_1 (ci := 11) (kf := 1) rfl inGX11 (by decide) w_1307)) (ok_t_l (ok_iload_n dX11_define_4 rfl)))) (ok_t_n (ok_t_l (ok_inv (run_V (y := 119) (n := 1) (ci := 8) dX11_define_5 cz_119 gdG cc_119 ci_119 w_619 cm_119 cs_119 cd_119 cl_119 rfl rfl))) (ok_t_n (ok_t_l (ok_if_ne dX11_define_8 rfl)) (ok_t_l (ok_dup dX11_define_14))))) (ok_t_n (ok_t_n (ok_t_l (ok_iload_n dX11_define_21 rfl)) (ok_t_n (ok_t_l (ok_inv (run_S (y := 193) (n := 1) dX11_define_22 cz_193 gdG cc_193 ci_193 w_199 cm_193 cd_193 cl_193))) (ok_t_l (ok_if_ne dX11_define_25 rfl)))) (ok_t_n (ok_t_l (ok_dup dX11_define_31)) (ok_t_n (ok_t_l (ok_aload_n dX11_define_38 rfl)) (ok_t_l (ok_getfield dX11_define_39 (ci := 11) (kf := 1) rfl inGX11 (by decide) w_1307)))))) (ok_t_n (ok_t_n (ok_t_n (ok_t_l (ok_iload_n dX11_define_42 rfl)) (ok_t_n (ok_t_l (ok_inv (run_V (y := 123) (n := 1) (ci := 8) dX11_define_43 cz_123 gdG cc_123 ci_123 w_621 cm_123 cs_123 cd_123 cl_123 rfl rfl))) (ok_t_l (ok_istore dX11_define_46)))) (ok_t_n (ok_t_l (ok_aload_n dX11_define_48 rfl)) (ok_t_n (ok_t_l (ok_getfield dX11_define_49 (ci := 11) (kf := 0) rfl inGX11 (by decide) w_1306)) (ok_t_l (ok_iload dX11_define_52))))) (ok_t_n (ok_t_n (ok_t_l (ok_iload_n dX11_define_54 rfl)) (ok_t_n (ok_t_l (ok_inv (run_V (y := 98) (n := 2) (ci := 6) dX11_define_55 cz_98 gdG cc_98 ci_98 w_203 cm_98 cs_98 cd_98 cl_98 rfl rfl))) (ok_t_l (ok_iconst dX11_define_58 rfl)))) (ok_t_n (ok_t_l (ok_icmp_eq dX11_define_59 rfl)) (ok_t_n (ok_t_l (ok_dup dX11_define_65)) (ok_t_l (ok_aload_n dX11_define_72 rfl))))))) (ok_t_n (ok_t_n (ok_t_n (ok_t_n (ok_t_l (ok_getfield dX11_define_73 (ci := 11) (kf := 1) rfl inGX11 (by decide) w_1307)) (ok_t_n (ok_t_l (ok_iload_n dX11_define_76 rfl)) (ok_t_l (ok_inv (run_V (y := 126) (n := 1) (ci := 8) dX11_define_77 cz_126 gdG cc_126 ci_126 w_623 cm_126 cs_126 cd_126 cl_126 rfl rfl))))) (ok_t_n (ok_t_l (ok_istore dX11_define_80)) (ok_t_n (ok_t_l (ok_aload_n dX11_define_82 rfl)) (ok_t_l (ok_getfield dX11_define_83 (ci := 11) (kf := 0) rfl inGX11 (by decide) w_1306))))) (ok_t_n (ok_t_n (ok_t_l (ok_iload dX11_define_86)) (ok_t_n (ok_t_l (ok_iload_n dX11_define_88 rfl)) (ok_t_l (ok_iload_n dX11_define_89 rfl)))) (ok_t_n (ok_t_l (ok_if_eq dX11_define_90 rfl)) (ok_t_n (ok_t_l (ok_iconst dX11_define_93 rfl)) (ok_t_l (ok_goto dX11_define_94 rfl)))))) (ok_t_n (ok_t_n (ok_t_n (ok_t_l (ok_iconst dX11_define_97 rfl)) (ok_t_n (ok_t_l (ok_iload_n dX11_define_98 rfl)) (ok_t_l (ok_iload dX11_define_99)))) (ok_t_n (ok_t_l (ok_inv (run_V (y := 95) (n := 5) (ci := 6) dX11_define_101 cz_95 gdG cc_95 ci_95 w_1486 cm_95 cs_95 cd_95 cl_95 rfl rfl))) (ok_t_n (ok_t_l (ok_iload dX11_define_104)) (ok_t_l (ok_if_eq dX11_define_106 rfl))))) (ok_t_n (ok_t_n (ok_t_l (ok_aload_n dX11_define_109 rfl)) (ok_t_n (ok_t_l (ok_getfield dX11_define_110 (ci := 11) (kf := 0) rfl inGX11 (by decide) w_1306)) (ok_t_l (ok_iload dX11_define_113)))) (ok_t_n (ok_t_n (ok_t_l (ok_iload_n dX11_define_115 rfl)) (ok_t_l (ok_inv (run_V (y := 96) (n := 2) (ci := 6) dX11_define_116 cz_96 gdG cc_96 ci_96 w_1487 cm_96 cs_96 cd_96 cl_96 rfl rfl)))) (ok_t_n (ok_t_l (ok_iload dX11_define_119)) (ok_t_l (ok_ireturn dX11_define_121))))))))
theorem dX11_common_0 : decode cX11_common 0 = .ok (.aload_n 0, 1) := by decide +kernel
theorem dX11_common_1 : decode cX11_common 1 = .ok (.getfield 12, 3) := by decide +kernel
theorem dX11_common_4 : decode cX11_common 4 = .ok (.iload_n 1, 1) := by decide +kernel
theorem dX11_common_5 : decode cX11_common 5 = .ok (.invokevirtual 78, 3) := by decide +kernel
theorem dX11_common_8 : decode cX11_common 8 = .ok (.ifCond .ne 13, 3) := by decide +kernel
theorem dX11_common_11 : decode cX11_common 11 = .ok (.new 82, 3) := by decide +kernel
theorem dX11_common_14 : decode cX11_common 14 = .ok (.dup, 1) := by decide +kernel
theorem dX11_common_15 : decode cX11_common 15 = .ok (.ldc 84, 2) := by decide +kernel
theorem dX11_common_17 : decode cX11_common 17 = .ok (.invokespecial 86, 3) := by decide +kernel
theorem dX11_common_20 : decode cX11_common 20 = .ok (.athrow, 1) := by decide +kernel
theorem dX11_common_21 : decode cX11_common 21 = .ok (.iload_n 2, 1) := by decide +kernel
theorem dX11_common_22 : decode cX11_common 22 = .ok (.invokestatic 115, 3) := by decide +kernel
theorem dX11_common_25 : decode cX11_common 25 = .ok (.ifCond .eq 22, 3) := by decide +kernel
theorem dX11_common_28 : decode cX11_common 28 = .ok (.iload_n 3, 1) := by decide +kernel
theorem dX11_common_29 : decode cX11_common 29 = .ok (.iconst 1, 1) := by decide +kernel
theorem dX11_common_30 : decode cX11_common 30 = .ok (.if_icmp .lt 17, 3) := by decide +kernel
theorem dX11_common_33 : decode cX11_common 33 = .ok (.iload_n 3, 1) := by decide +kernel
theorem dX11_common_34 : decode cX11_common 34 = .ok (.bipush 40, 2) := by decide +kernel
theorem dX11_common_36 : decode cX11_common 36 = .ok (.if_icmp .gt 11, 3) := by decide +kernel
theorem dX11_common_39 : decode cX11_common 39 = .ok (.iload 4, 2) := by decide +kernel
theorem dX11_common_41 : decode cX11_common 41 = .ok (.invokestatic 87, 3) := by decide +kernel
theorem dX11_common_44 : decode cX11_common 44 = .ok (.ifCond .ne 13, 3) := by decide +kernel
theorem dX11_common_47 : decode cX11_common 47 = .ok (.new 90, 3) := by decide +kernel
theorem dX11_common_50 : decode cX11_common 50 = .ok (.dup, 1) := by decide +kernel
theorem dX11_common_51 : decode cX11_common 51 = .ok (.ldc 146, 2) := by decide +kernel
theorem dX11_common_53 : decode cX11_common 53 = .ok (.invokespecial 94, 3) := by decide +kernel
theorem dX11_common_56 : decode cX11_common 56 = .ok (.athrow, 1) := by decide +kernel
theorem dX11_common_57 : decode cX11_common 57 = .ok (.aload_n 0, 1) := by decide +kernel
theorem dX11_common_58 : decode cX11_common 58 = .ok (.getfield 12, 3) := by decide +kernel
theorem dX11_common_61 : decode cX11_common 61 = .ok (.iload_n 1, 1) := by decide +kernel
theorem dX11_common_62 : decode cX11_common 62 = .ok (.iload_n 2, 1) := by decide +kernel
theorem dX11_common_63 : decode cX11_common 63 = .ok (.invokevirtual 129, 3) := by decide +kernel
theorem dX11_common_66 : decode cX11_common 66 = .ok (.iconst (-1), 1) := by decide +kernel
theorem dX11_common_67 : decode cX11_common 67 = .ok (.if_icmp .eq 13, 3) := by decide +kernel
theorem dX11_common_70 : decode cX11_common 70 = .ok (.new 67, 3) := by decide +kernel
theorem dX11_common_73 : decode cX11_common 73 = .ok (.dup, 1) := by decide +kernel
theorem dX11_common_74 : decode cX11_common 74 = .ok (.ldc 133, 2) := by decide +kernel
theorem dX11_common_76 : decode cX11_common 76 = .ok (.invokespecial 71, 3) := by decide +kernel
theorem dX11_common_79 : decode cX11_common 79 = .ok (.athrow, 1) := by decide +kernel
theorem dX11_common_80 : decode cX11_common 80 = .ok (.aload_n 0, 1) := by decide +kernel
theorem dX11_common_81 : decode cX11_common 81 = .ok (.getfield 12, 3) := by decide +kernel
theorem dX11_common_84 : decode cX11_common 84 = .ok (.iload_n 1, 1) := by decide +kernel
theorem dX11_common_85 : decode cX11_common 85 = .ok (.iload_n 2, 1) := by decide +kernel
theorem dX11_common_86 : decode cX11_common 86 = .ok (.iload_n 3, 1) := by decide +kernel
theorem dX11_common_87 : decode cX11_common 87 = .ok (.iload 4, 2) := by decide +kernel
theorem dX11_common_89 : decode cX11_common 89 = .ok (.invokevirtual 148, 3) := by decide +kernel
theorem dX11_common_92 : decode cX11_common 92 = .ok (.aload_n 0, 1) := by decide +kernel
theorem dX11_common_93 : decode cX11_common 93 = .ok (.getfield 12, 3) := by decide +kernel
theorem dX11_common_96 : decode cX11_common 96 = .ok (.iload_n 1, 1) := by decide +kernel
theorem dX11_common_97 : decode cX11_common 97 = .ok (.invokevirtual 152, 3) := by decide +kernel
theorem dX11_common_100 : decode cX11_common 100 = .ok (.invokestatic 155, 3) := by decide +kernel
theorem dX11_common_103 : decode cX11_common 103 = .ok (.ireturn, 1) := by decide +kernel
def g_X11_common : Nat → EA := (t_n 58 (t_n 29 (t_n 14 (t_n 4 (t_n 1 (t_l 0 (a_aload 1 0)) (t_l 1 (a_getf 11 0))) (t_n 5 (t_l 4 (a_iload 1 1)) (t_n 8 (t_l 5 (a_inv true 88 2 (some 6))) (t_l 8 (a_if 21 (fun x => !decide (x = 0))))))) (t_n 22 (t_n 21 (t_l 14 a_dup) (t_l 21 (a_iload 1 2))) (t_n 25 (t_l 22 (a_inv true 193 1 none)) (t_n 28 (t_l 25 (a_if 47 (fun x => decide (x = 0)))) (t_l 28 (a_iload 1 3)))))) (t_n 39 (t_n 33 (t_n 30 (t_l 29 (a_push 1 (.int 1))) (t_l 30 (a_ic 47 (fun x y => decide (x < y))))) (t_n 34 (t_l 33 (a_iload 1 3)) (t_n 36 (t_l 34 (a_push 2 (.int 40))) (t_l 36 (a_ic 47 (fun x y => decide (y < x))))))) (t_n 44 (t_n 41 (t_l 39 (a_iload 2 4)) (t_l 41 (a_inv true 194 1 none))) (t_n 50 (t_l 44 (a_if 57 (fun x => !decide (x = 0)))) (t_n 57 (t_l 50 a_dup) (t_l 57 (a_aload 1 0))))))) (t_n 85 (t_n 67 (t_n 62 (t_n 61 (t_l 58 (a_getf 11 0)) (t_l 61 (a_iload 1 1))) (t_n 63 (t_l 62 (a_iload 1 2)) (t_n 66 (t_l 63 (a_inv true 98 3 (some 6))) (t_l 66 (a_push 1 (.int (-1))))))) (t_n 80 (t_n 73 (t_l 67 (a_ic 80 (fun x y => decide (x = y)))) (t_l 73 a_dup)) (t_n 81 (t_l 80 (a_aload 1 0)) (t_n 84 (t_l 81 (a_getf 11 0)) (t_l 84 (a_iload 1 1)))))) (t_n 93 (t_n 87 (t_n 86 (t_l 85 (a_iload 1 2)) (t_l 86 (a_iload 1 3))) (t_n 89 (t_l 87 (a_iload 2 4)) (t_n 92 (t_l 89 (a_inv true 97 5 (some 6))) (t_l 92 (a_aload 1 0))))) (t_n 97 (t_n 96 (t_l 93 (a_getf 11 0)) (t_l 96 (a_iload 1 1))) (t_n 100 (t_l 97 (a_inv true 91 2 (some 6))) (t_n 103 (t_l 100 (a_inv true 209 1 none)) (t_l 103 a_iret)))))))
set_option maxRecDepth 100000 in
theorem k_X11_common (sc : Nat × (Nat → Int32)) (d : Nat) : ∀ pc, ev_Ok cX11_common 5 [] RX11 lw_g lw_n (lw_q sc) vwCl false (ev_CO mt lw_g lw_n (lw_q sc) vwCl d) pc (g_X11_common pc) := (ok_t_n (ok_t_n (ok_t_n (ok_t_n (ok_t_n (ok_t_l (ok_aload_n dX11_common_0 rfl)) (ok_t_l (ok_getfield dX11_common_1 (ci := 11) (kf := 0) rfl inGX11 (by decide) w_1306))) (ok_t_n (ok_t_l (ok_iload_n dX11_common_4 rfl)) (ok_t_n (ok_t_l (ok_inv (run_V (y := 88) (n := 1) (ci := 6) dX11_common_5 cz_88 gdG cc_88 ci_88 w_146 cm_88 cs_88 cd_88 cl_88 rfl rfl))) (ok_t_l (ok_if_ne dX11_common_8 rfl))))) (ok_t_n (ok_t_n (ok_t_l (ok_dup dX11_common_14)) (ok_t_l (ok_iload_n dX11_common_21 rfl))) (ok_t_n (ok_t_l (ok_inv (run_S (y := 193) (n := 1) dX11_common_22 cz_193 gdG cc_193 ci_193 w_199 cm_193 cd_193 cl_193))) (ok_t_n (ok_t_l (ok_if_eq dX11_common_25 rfl)) (ok_t_l (ok_iload_n dX11_common_28 rfl)))))) (ok_t_n (ok_t_n (ok_t_n (ok_t_l (ok_iconst dX11_common_29 rfl)) (ok_t_l (ok_icmp_lt dX11_common_30 rfl))) (ok_t_n (ok_t_l (ok_iload_n dX11_common_33 rfl)) (ok_t_n (ok_t_l (ok_bipush dX11_common_34 rfl)) (ok_t_l (ok_icmp_gt dX11_common_36 rfl))))) (ok_t_n (ok_t_n (ok_t_l (ok_iload dX11_common_39)) (ok_t_l (ok_inv (run_S (y := 194) (n := 1) dX11_common_41 cz_194 gdG cc_194 ci_194 w_166 cm_194 cd_194 cl_194)))) (ok_t_n (ok_t_l (ok_if_ne dX11_common_44 rfl)) (ok_t_n (ok_t_l (ok_dup dX11_common_50)) (ok_t_l (ok_aload_n dX11_common_57 rfl))))))) (ok_t_n (ok_t_n (ok_t_n (ok_t_n (ok_t_l (ok_getfield dX11_common_58 (ci := 11) (kf := 0) rfl inGX11 (by decide) w_1306)) (ok_t_l (ok_iload_n dX11_common_61 rfl))) (ok_t_n (ok_t_l (ok_iload_n dX11_common_62 rfl)) (ok_t_n (ok_t_l (ok_inv (run_V (y := 98) (n := 2) (ci := 6) dX11_common_63 cz_98 gdG cc_98 ci_98 w_203 cm_98 cs_98 cd_98 cl_98 rfl rfl))) (ok_t_l (ok_iconst dX11_common_66 rfl))))) (ok_t_n (ok_t_n (ok_t_l (ok_icmp_eq dX11_common_67 rfl)) (ok_t_l (ok_dup dX11_common_73))) (ok_t_n (ok_t_l (ok_aload_n dX11_common_80 rfl)) (ok_t_n (ok_t_l (ok_getfield dX11_common_81 (ci := 11) (kf := 0) rfl inGX11 (by decide) w_1306)) (ok_t_l (ok_iload_n dX11_common_84 rfl)))))) (ok_t_n (ok_t_n (ok_t_n (ok_t_l (ok_iload_n dX11_common_85 rfl)) (ok_t_l (ok_iload_n dX11_common_86 rfl))) (ok_t_n (ok_t_l (ok_iload dX11_common_87)) (ok_t_n (ok_t_l (ok_inv (run_V (y := 97) (n := 4) (ci := 6) dX11_common_89 cz_97 gdG cc_97 ci_97 w_213 cm_97 cs_97 cd_97 cl_97 rfl rfl))) (ok_t_l (ok_aload_n dX11_common_92 rfl))))) (ok_t_n (ok_t_n (ok_t_l (ok_getfield dX11_common_93 (ci := 11) (kf := 0) rfl inGX11 (by decide) w_1306)) (ok_t_l (ok_iload_n dX11_common_96 rfl))) (ok_t_n (ok_t_l (ok_inv (run_V (y := 91) (n := 1) (ci := 6) dX11_common_97 cz_91 gdG cc_91 ci_91 w_221 cm_91 cs_91 cd_91 cl_91 rfl rfl))) (ok_t_n (ok_t_l (ok_inv (run_S (y := 209) (n := 1) dX11_common_100 cz_209 gdG cc_209 ci_209 w_225 cm_209 cd_209 cl_209))) (ok_t_l (ok_ireturn dX11_common_103))))))))
theorem dX11_item_0 : decode cX11_item 0 = .ok (.iload_n 1, 1) := by decide +kernel
theorem dX11_item_1 : decode cX11_item 1 = .ok (.iconst 1, 1) := by decide +kernel
theorem dX11_item_2 : decode cX11_item 2 = .ok (.if_icmp .lt 23, 3) := by decide +kernel
theorem dX11_item_5 : decode cX11_item 5 = .ok (.aload_n 0, 1) := by decide +kernel
theorem dX11_item_6 : decode cX11_item 6 = .ok (.getfield 12, 3) := by decide +kernel
theorem dX11_item_9 : decode cX11_item 9 = .ok (.iload_n 1, 1) := by decide +kernel
theorem dX11_item_10 : decode cX11_item 10 = .ok (.invokevirtual 160, 3) := by decide +kernel
theorem dX11_item_13 : decode cX11_item 13 = .ok (.ifCond .eq 12, 3) := by decide +kernel
theorem dX11_item_16 : decode cX11_item 16 = .ok (.iload_n 2, 1) := by decide +kernel
theorem dX11_item_17 : decode cX11_item 17 = .ok (.ifCond .lt 8, 3) := by decide +kernel
theorem dX11_item_20 : decode cX11_item 20 = .ok (.iload_n 2, 1) := by decide +kernel
theorem dX11_item_21 : decode cX11_item 21 = .ok (.iconst 2, 1) := by decide +kernel
theorem dX11_item_22 : decode cX11_item 22 = .ok (.if_icmp .le 13, 3) := by decide +kernel
theorem dX11_item_25 : decode cX11_item 25 = .ok (.new 90, 3) := by decide +kernel
theorem dX11_item_28 : decode cX11_item 28 = .ok (.dup, 1) := by decide +kernel
theorem dX11_item_29 : decode cX11_item 29 = .ok (.ldc 163, 2) := by decide +kernel
theorem dX11_item_31 : decode cX11_item 31 = .ok (.invokespecial 94, 3) := by decide +kernel
theorem dX11_item_34 : decode cX11_item 34 = .ok (.athrow, 1) := by decide +kernel
theorem dX11_item_35 : decode cX11_item 35 = .ok (.aload_n 0, 1) := by decide +kernel
theorem dX11_item_36 : decode cX11_item 36 = .ok (.getfield 26, 3) := by decide +kernel
theorem dX11_item_39 : decode cX11_item 39 = .ok (.invokevirtual 165, 3) := by decide +kernel
theorem dX11_item_42 : decode cX11_item 42 = .ok (.ifCond .ne 14, 3) := by decide +kernel
theorem dX11_item_45 : decode cX11_item 45 = .ok (.aload_n 0, 1) := by decide +kernel
theorem dX11_item_46 : decode cX11_item 46 = .ok (.getfield 26, 3) := by decide +kernel
theorem dX11_item_49 : decode cX11_item 49 = .ok (.iload_n 1, 1) := by decide +kernel
theorem dX11_item_50 : decode cX11_item 50 = .ok (.invokevirtual 166, 3) := by decide +kernel
theorem dX11_item_53 : decode cX11_item 53 = .ok (.ifCond .eq 13, 3) := by decide +kernel
theorem dX11_item_56 : decode cX11_item 56 = .ok (.new 67, 3) := by decide +kernel
theorem dX11_item_59 : decode cX11_item 59 = .ok (.dup, 1) := by decide +kernel
theorem dX11_item_60 : decode cX11_item 60 = .ok (.ldc 169, 2) := by decide +kernel
theorem dX11_item_62 : decode cX11_item 62 = .ok (.invokespecial 71, 3) := by decide +kernel
theorem dX11_item_65 : decode cX11_item 65 = .ok (.athrow, 1) := by decide +kernel
theorem dX11_item_66 : decode cX11_item 66 = .ok (.aload_n 0, 1) := by decide +kernel
theorem dX11_item_67 : decode cX11_item 67 = .ok (.getfield 26, 3) := by decide +kernel
theorem dX11_item_70 : decode cX11_item 70 = .ok (.iload_n 1, 1) := by decide +kernel
theorem dX11_item_71 : decode cX11_item 71 = .ok (.iload_n 2, 1) := by decide +kernel
theorem dX11_item_72 : decode cX11_item 72 = .ok (.invokevirtual 171, 3) := by decide +kernel
theorem dX11_item_75 : decode cX11_item 75 = .ok (.ireturn, 1) := by decide +kernel
def g_X11_item : Nat → EA := (t_n 36 (t_n 13 (t_n 5 (t_n 1 (t_l 0 (a_iload 1 1)) (t_n 2 (t_l 1 (a_push 1 (.int 1))) (t_l 2 (a_ic 25 (fun x y => decide (x < y)))))) (t_n 9 (t_n 6 (t_l 5 (a_aload 1 0)) (t_l 6 (a_getf 11 0))) (t_n 10 (t_l 9 (a_iload 1 1)) (t_l 10 (a_inv true 89 2 (some 6)))))) (t_n 21 (t_n 17 (t_n 16 (t_l 13 (a_if 25 (fun x => decide (x = 0)))) (t_l 16 (a_iload 1 2))) (t_n 20 (t_l 17 (a_if 25 (fun x => decide (x < 0)))) (t_l 20 (a_iload 1 2)))) (t_n 28 (t_n 22 (t_l 21 (a_push 1 (.int 2))) (t_l 22 (a_ic 35 (fun x y => decide (x ≤ y))))) (t_n 35 (t_l 28 a_dup) (t_l 35 (a_aload 1 0)))))) (t_n 53 (t_n 45 (t_n 39 (t_l 36 (a_getf 11 2)) (t_n 42 (t_l 39 (a_inv true 11 1 (some 2))) (t_l 42 (a_if 56 (fun x => !decide (x = 0)))))) (t_n 49 (t_n 46 (t_l 45 (a_aload 1 0)) (t_l 46 (a_getf 11 2))) (t_n 50 (t_l 49 (a_iload 1 1)) (t_l 50 (a_inv true 14 2 (some 2)))))) (t_n 70 (t_n 66 (t_n 59 (t_l 53 (a_if 66 (fun x => decide (x = 0)))) (t_l 59 a_dup)) (t_n 67 (t_l 66 (a_aload 1 0)) (t_l 67 (a_getf 11 2)))) (t_n 72 (t_n 71 (t_l 70 (a_iload 1 1)) (t_l 71 (a_iload 1 2))) (t_n 75 (t_l 72 (a_inv true 12 3 (some 2))) (t_l 75 a_iret))))))
set_option maxRecDepth 100000 in
theorem k_X11_item (sc : Nat × (Nat → Int32)) (d : Nat) : ∀ pc, ev_Ok cX11_item 3 [] RX11 lw_g lw_n (lw_q sc) vwCl false (ev_CO mt lw_g lw_n (lw_q sc) vwCl d) pc (g_X11_item pc) := (ok_t_n (ok_t_n (ok_t_n (ok_t_n (ok_t_l (ok_iload_n dX11_item_0 rfl)) (ok_t_n (ok_t_l (ok_iconst dX11_item_1 rfl)) (ok_t_l (ok_icmp_lt dX11_item_2 rfl)))) (ok_t_n (ok_t_n (ok_t_l (ok_aload_n dX11_item_5 rfl)) (ok_t_l (ok_getfield dX11_item_6 (ci := 11) (kf := 0) rfl inGX11 (by decide) w_1306))) (ok_t_n (ok_t_l (ok_iload_n dX11_item_9 rfl)) (ok_t_l (ok_inv (run_V (y := 89) (n := 1) (ci := 6) dX11_item_10 cz_89 gdG cc_89 ci_89 w_1507 cm_89 cs_89 cd_89 cl_89 rfl rfl)))))) (ok_t_n (ok_t_n (ok_t_n (ok_t_l (ok_if_eq dX11_item_13 rfl)) (ok_t_l (ok_iload_n dX11_item_16 rfl))) (ok_t_n (ok_t_l (ok_if_lt dX11_item_17 rfl)) (ok_t_l (ok_iload_n dX11_item_20 rfl)))) (ok_t_n (ok_t_n (ok_t_l (ok_iconst dX11_item_21 rfl)) (ok_t_l (ok_icmp_le dX11_item_22 rfl))) (ok_t_n (ok_t_l (ok_dup dX11_item_28)) (ok_t_l (ok_aload_n dX11_item_35 rfl)))))) (ok_t_n (ok_t_n (ok_t_n (ok_t_l (ok_getfield dX11_item_36 (ci := 11) (kf := 2) rfl inGX11 (by decide) w_1308)) (ok_t_n (ok_t_l (ok_inv (run_V (y := 11) (n := 0) (ci := 2) dX11_item_39 cz_11 gdG cc_11 ci_11 w_1512 cm_11 cs_11 cd_11 cl_11 rfl rfl))) (ok_t_l (ok_if_ne dX11_item_42 rfl)))) (ok_t_n (ok_t_n (ok_t_l (ok_aload_n dX11_item_45 rfl)) (ok_t_l (ok_getfield dX11_item_46 (ci := 11) (kf := 2) rfl inGX11 (by decide) w_1308))) (ok_t_n (ok_t_l (ok_iload_n dX11_item_49 rfl)) (ok_t_l (ok_inv (run_V (y := 14) (n := 1) (ci := 2) dX11_item_50 cz_14 gdG cc_14 ci_14 w_1516 cm_14 cs_14 cd_14 cl_14 rfl rfl)))))) (ok_t_n (ok_t_n (ok_t_n (ok_t_l (ok_if_eq dX11_item_53 rfl)) (ok_t_l (ok_dup dX11_item_59))) (ok_t_n (ok_t_l (ok_aload_n dX11_item_66 rfl)) (ok_t_l (ok_getfield dX11_item_67 (ci := 11) (kf := 2) rfl inGX11 (by decide) w_1308)))) (ok_t_n (ok_t_n (ok_t_l (ok_iload_n dX11_item_70 rfl)) (ok_t_l (ok_iload_n dX11_item_71 rfl))) (ok_t_n (ok_t_l (ok_inv (run_V (y := 12) (n := 2) (ci := 2) dX11_item_72 cz_12 gdG cc_12 ci_12 w_1521 cm_12 cs_12 cd_12 cl_12 rfl rfl))) (ok_t_l (ok_ireturn dX11_item_75)))))))
theorem dX11_clear_0 : decode cX11_clear 0 = .ok (.aload_n 0, 1) := by decide +kernel
theorem dX11_clear_1 : decode cX11_clear 1 = .ok (.getfield 26, 3) := by decide +kernel
theorem dX11_clear_4 : decode cX11_clear 4 = .ok (.invokevirtual 173, 3) := by decide +kernel
theorem dX11_clear_7 : decode cX11_clear 7 = .ok (.ireturn, 1) := by decide +kernel
def g_X11_clear : Nat → EA := (t_n 4 (t_n 1 (t_l 0 (a_aload 1 0)) (t_l 1 (a_getf 11 2))) (t_n 7 (t_l 4 (a_inv true 13 1 (some 2))) (t_l 7 a_iret)))
set_option maxRecDepth 100000 in
theorem k_X11_clear (sc : Nat × (Nat → Int32)) (d : Nat) : ∀ pc, ev_Ok cX11_clear 1 [] RX11 lw_g lw_n (lw_q sc) vwCl false (ev_CO mt lw_g lw_n (lw_q sc) vwCl d) pc (g_X11_clear pc) := (ok_t_n (ok_t_n (ok_t_l (ok_aload_n dX11_clear_0 rfl)) (ok_t_l (ok_getfield dX11_clear_1 (ci := 11) (kf := 2) rfl inGX11 (by decide) w_1308))) (ok_t_n (ok_t_l (ok_inv (run_V (y := 13) (n := 0) (ci := 2) dX11_clear_4 cz_13 gdG cc_13 ci_13 w_1499 cm_13 cs_13 cd_13 cl_13 rfl rfl))) (ok_t_l (ok_ireturn dX11_clear_7))))
theorem dX11_ofObject_0 : decode cX11_ofObject 0 = .ok (.aload_n 0, 1) := by decide +kernel
theorem dX11_ofObject_1 : decode cX11_ofObject 1 = .ok (.getfield 12, 3) := by decide +kernel
theorem dX11_ofObject_4 : decode cX11_ofObject 4 = .ok (.iload_n 1, 1) := by decide +kernel
theorem dX11_ofObject_5 : decode cX11_ofObject 5 = .ok (.invokevirtual 78, 3) := by decide +kernel
theorem dX11_ofObject_8 : decode cX11_ofObject 8 = .ok (.ifCond .ne 13, 3) := by decide +kernel
theorem dX11_ofObject_11 : decode cX11_ofObject 11 = .ok (.new 82, 3) := by decide +kernel
theorem dX11_ofObject_14 : decode cX11_ofObject 14 = .ok (.dup, 1) := by decide +kernel
theorem dX11_ofObject_15 : decode cX11_ofObject 15 = .ok (.ldc 84, 2) := by decide +kernel
theorem dX11_ofObject_17 : decode cX11_ofObject 17 = .ok (.invokespecial 86, 3) := by decide +kernel
theorem dX11_ofObject_20 : decode cX11_ofObject 20 = .ok (.athrow, 1) := by decide +kernel
theorem dX11_ofObject_21 : decode cX11_ofObject 21 = .ok (.iload_n 2, 1) := by decide +kernel
theorem dX11_ofObject_22 : decode cX11_ofObject 22 = .ok (.tableswitch 72 0 3 #[30, 39, 51, 60], 30) := by decide +kernel
theorem dX11_ofObject_52 : decode cX11_ofObject 52 = .ok (.aload_n 0, 1) := by decide +kernel
theorem dX11_ofObject_53 : decode cX11_ofObject 53 = .ok (.getfield 19, 3) := by decide +kernel
theorem dX11_ofObject_56 : decode cX11_ofObject 56 = .ok (.iload_n 1, 1) := by decide +kernel
theorem dX11_ofObject_57 : decode cX11_ofObject 57 = .ok (.invokevirtual 176, 3) := by decide +kernel
theorem dX11_ofObject_60 : decode cX11_ofObject 60 = .ok (.ireturn, 1) := by decide +kernel
theorem dX11_ofObject_61 : decode cX11_ofObject 61 = .ok (.aload_n 0, 1) := by decide +kernel
theorem dX11_ofObject_62 : decode cX11_ofObject 62 = .ok (.getfield 12, 3) := by decide +kernel
theorem dX11_ofObject_65 : decode cX11_ofObject 65 = .ok (.iload_n 1, 1) := by decide +kernel
theorem dX11_ofObject_66 : decode cX11_ofObject 66 = .ok (.invokevirtual 152, 3) := by decide +kernel
theorem dX11_ofObject_69 : decode cX11_ofObject 69 = .ok (.invokestatic 155, 3) := by decide +kernel
theorem dX11_ofObject_72 : decode cX11_ofObject 72 = .ok (.ireturn, 1) := by decide +kernel
theorem dX11_ofObject_73 : decode cX11_ofObject 73 = .ok (.aload_n 0, 1) := by decide +kernel
theorem dX11_ofObject_74 : decode cX11_ofObject 74 = .ok (.getfield 26, 3) := by decide +kernel
theorem dX11_ofObject_77 : decode cX11_ofObject 77 = .ok (.iload_n 1, 1) := by decide +kernel
theorem dX11_ofObject_78 : decode cX11_ofObject 78 = .ok (.invokevirtual 179, 3) := by decide +kernel
theorem dX11_ofObject_81 : decode cX11_ofObject 81 = .ok (.ireturn, 1) := by decide +kernel
theorem dX11_ofObject_82 : decode cX11_ofObject 82 = .ok (.aload_n 0, 1) := by decide +kernel
theorem dX11_ofObject_83 : decode cX11_ofObject 83 = .ok (.getfield 56, 3) := by decide +kernel
theorem dX11_ofObject_86 : decode cX11_ofObject 86 = .ok (.getfield 182, 3) := by decide +kernel
theorem dX11_ofObject_89 : decode cX11_ofObject 89 = .ok (.iload_n 1, 1) := by decide +kernel
theorem dX11_ofObject_90 : decode cX11_ofObject 90 = .ok (.invokevirtual 186, 3) := by decide +kernel
theorem dX11_ofObject_93 : decode cX11_ofObject 93 = .ok (.ireturn, 1) := by decide +kernel
theorem dX11_ofObject_94 : decode cX11_ofObject 94 = .ok (.new 90, 3) := by decide +kernel
theorem dX11_ofObject_97 : decode cX11_ofObject 97 = .ok (.dup, 1) := by decide +kernel
theorem dX11_ofObject_98 : decode cX11_ofObject 98 = .ok (.ldc 191, 2) := by decide +kernel
theorem dX11_ofObject_100 : decode cX11_ofObject 100 = .ok (.invokespecial 94, 3) := by decide +kernel
theorem dX11_ofObject_103 : decode cX11_ofObject 103 = .ok (.athrow, 1) := by decide +kernel
def g_X11_ofObject : Nat → EA := (t_n 65 (t_n 22 (t_n 5 (t_n 1 (t_l 0 (a_aload 1 0)) (t_n 4 (t_l 1 (a_getf 11 0)) (t_l 4 (a_iload 1 1)))) (t_n 14 (t_n 8 (t_l 5 (a_inv true 88 2 (some 6))) (t_l 8 (a_if 21 (fun x => !decide (x = 0))))) (t_n 21 (t_l 14 a_dup) (t_l 21 (a_iload 1 2))))) (t_n 57 (t_n 53 (t_n 52 (t_l 22 (a_tsw 0 [52, 61, 73, 82] 94)) (t_l 52 (a_aload 1 0))) (t_n 56 (t_l 53 (a_getf 11 1)) (t_l 56 (a_iload 1 1)))) (t_n 61 (t_n 60 (t_l 57 (a_inv true 127 2 (some 8))) (t_l 60 a_iret)) (t_n 62 (t_l 61 (a_aload 1 0)) (t_l 62 (a_getf 11 0)))))) (t_n 81 (t_n 73 (t_n 69 (t_n 66 (t_l 65 (a_iload 1 1)) (t_l 66 (a_inv true 91 2 (some 6)))) (t_n 72 (t_l 69 (a_inv true 209 1 none)) (t_l 72 a_iret))) (t_n 77 (t_n 74 (t_l 73 (a_aload 1 0)) (t_l 74 (a_getf 11 2))) (t_n 78 (t_l 77 (a_iload 1 1)) (t_l 78 (a_inv true 15 2 (some 2)))))) (t_n 89 (t_n 83 (t_n 82 (t_l 81 a_iret) (t_l 82 (a_aload 1 0))) (t_n 86 (t_l 83 (a_getf 11 5)) (t_l 86 (a_getf 5 1)))) (t_n 93 (t_n 90 (t_l 89 (a_iload 1 1)) (t_l 90 (a_inv true 151 2 (some 10)))) (t_n 97 (t_l 93 a_iret) (t_l 97 a_dup))))))
set_option maxRecDepth 100000 in
theorem k_X11_ofObject (sc : Nat × (Nat → Int32)) (d : Nat) : ∀ pc, ev_Ok cX11_ofObject 3 [] RX11 lw_g lw_n (lw_q sc) vwCl false (ev_CO mt lw_g lw_n (lw_q sc) vwCl d) pc (g_X11_ofObject pc) := (ok_t_n (ok_t_n (ok_t_n (ok_t_n (ok_t_l (ok_aload_n dX11_ofObject_0 rfl)) (ok_t_n (ok_t_l (ok_getfield dX11_ofObject_1 (ci := 11) (kf := 0) rfl inGX11 (by decide) w_1306)) (ok_t_l (ok_iload_n dX11_ofObject_4 rfl)))) (ok_t_n (ok_t_n (ok_t_l (ok_inv (run_V (y := 88) (n := 1) (ci := 6) dX11_ofObject_5 cz_88 gdG cc_88 ci_88 w_146 cm_88 cs_88 cd_88 cl_88 rfl rfl))) (ok_t_l (ok_if_ne dX11_ofObject_8 rfl))) (ok_t_n (ok_t_l (ok_dup dX11_ofObject_14)) (ok_t_l (ok_iload_n dX11_ofObject_21 rfl))))) (ok_t_n (ok_t_n (ok_t_n (ok_t_l (ok_tsw dX11_ofObject_22 rfl rfl rfl)) (ok_t_l (ok_aload_n dX11_ofObject_52 rfl))) (ok_t_n (ok_t_l (ok_getfield dX11_ofObject_53 (ci := 11) (kf := 1) rfl inGX11 (by decide) w_1307)) (ok_t_l (ok_iload_n dX11_ofObject_56 rfl)))) (ok_t_n (ok_t_n (ok_t_l (ok_inv (run_V (y := 127) (n := 1) (ci := 8) dX11_ofObject_57 cz_127 gdG cc_127 ci_127 w_235 cm_127 cs_127 cd_127 cl_127 rfl rfl))) (ok_t_l (ok_ireturn dX11_ofObject_60))) (ok_t_n (ok_t_l (ok_aload_n dX11_ofObject_61 rfl)) (ok_t_l (ok_getfield dX11_ofObject_62 (ci := 11) (kf := 0) rfl inGX11 (by decide) w_1306)))))) (ok_t_n (ok_t_n (ok_t_n (ok_t_n (ok_t_l (ok_iload_n dX11_ofObject_65 rfl)) (ok_t_l (ok_inv (run_V (y := 91) (n := 1) (ci := 6) dX11_ofObject_66 cz_91 gdG cc_91 ci_91 w_221 cm_91 cs_91 cd_91 cl_91 rfl rfl)))) (ok_t_n (ok_t_l (ok_inv (run_S (y := 209) (n := 1) dX11_ofObject_69 cz_209 gdG cc_209 ci_209 w_225 cm_209 cd_209 cl_209))) (ok_t_l (ok_ireturn dX11_ofObject_72)))) (ok_t_n (ok_t_n (ok_t_l (ok_aload_n dX11_ofObject_73 rfl)) (ok_t_l (ok_getfield dX11_ofObject_74 (ci := 11) (kf := 2) rfl inGX11 (by decide) w_1308))) (ok_t_n (ok_t_l (ok_iload_n dX11_ofObject_77 rfl)) (ok_t_l (ok_inv (run_V (y := 15) (n := 1) (ci := 2) dX11_ofObject_78 cz_15 gdG cc_15 ci_15 w_239 cm_15 cs_15 cd_15 cl_15 rfl rfl)))))) (ok_t_n (ok_t_n (ok_t_n (ok_t_l (ok_ireturn dX11_ofObject_81)) (ok_t_l (ok_aload_n dX11_ofObject_82 rfl))) (ok_t_n (ok_t_l (ok_getfield dX11_ofObject_83 (ci := 11) (kf := 5) rfl inGX11 (by decide) w_1311)) (ok_t_l (ok_getfieldN dX11_ofObject_86 (ci := 5) (kf := 1) rfl inGX5 (by decide) (nst_22))))) (ok_t_n (ok_t_n (ok_t_l (ok_iload_n dX11_ofObject_89 rfl)) (ok_t_l (ok_inv (run_V (y := 151) (n := 1) (ci := 10) dX11_ofObject_90 cz_151 gdG cc_151 ci_151 w_244 cm_151 cs_151 cd_151 cl_151 rfl rfl)))) (ok_t_n (ok_t_l (ok_ireturn dX11_ofObject_93)) (ok_t_l (ok_dup dX11_ofObject_97)))))))
theorem dX11_bounds_0 : decode cX11_bounds 0 = .ok (.iload_n 1, 1) := by decide +kernel
theorem dX11_bounds_1 : decode cX11_bounds 1 = .ok (.invokestatic 193, 3) := by decide +kernel
theorem dX11_bounds_4 : decode cX11_bounds 4 = .ok (.ifCond .eq 14, 3) := by decide +kernel
theorem dX11_bounds_7 : decode cX11_bounds 7 = .ok (.iload_n 2, 1) := by decide +kernel
theorem dX11_bounds_8 : decode cX11_bounds 8 = .ok (.ifCond .lt 10, 3) := by decide +kernel
theorem dX11_bounds_11 : decode cX11_bounds 11 = .ok (.iload_n 2, 1) := by decide +kernel
theorem dX11_bounds_12 : decode cX11_bounds 12 = .ok (.sipush 9999, 3) := by decide +kernel
theorem dX11_bounds_15 : decode cX11_bounds 15 = .ok (.if_icmp .le 13, 3) := by decide +kernel
theorem dX11_bounds_18 : decode cX11_bounds 18 = .ok (.new 90, 3) := by decide +kernel
theorem dX11_bounds_21 : decode cX11_bounds 21 = .ok (.dup, 1) := by decide +kernel
theorem dX11_bounds_22 : decode cX11_bounds 22 = .ok (.ldc 196, 2) := by decide +kernel
theorem dX11_bounds_24 : decode cX11_bounds 24 = .ok (.invokespecial 94, 3) := by decide +kernel
theorem dX11_bounds_27 : decode cX11_bounds 27 = .ok (.athrow, 1) := by decide +kernel
theorem dX11_bounds_28 : decode cX11_bounds 28 = .ok (.aload_n 0, 1) := by decide +kernel
theorem dX11_bounds_29 : decode cX11_bounds 29 = .ok (.getfield 44, 3) := by decide +kernel
theorem dX11_bounds_32 : decode cX11_bounds 32 = .ok (.istore_n 3, 1) := by decide +kernel
theorem dX11_bounds_33 : decode cX11_bounds 33 = .ok (.aload_n 0, 1) := by decide +kernel
theorem dX11_bounds_34 : decode cX11_bounds 34 = .ok (.iload_n 1, 1) := by decide +kernel
theorem dX11_bounds_35 : decode cX11_bounds 35 = .ok (.putfield 44, 3) := by decide +kernel
theorem dX11_bounds_38 : decode cX11_bounds 38 = .ok (.aload_n 0, 1) := by decide +kernel
theorem dX11_bounds_39 : decode cX11_bounds 39 = .ok (.iload_n 2, 1) := by decide +kernel
theorem dX11_bounds_40 : decode cX11_bounds 40 = .ok (.putfield 48, 3) := by decide +kernel
theorem dX11_bounds_43 : decode cX11_bounds 43 = .ok (.iload_n 3, 1) := by decide +kernel
theorem dX11_bounds_44 : decode cX11_bounds 44 = .ok (.ireturn, 1) := by decide +kernel
def g_X11_bounds : Nat → EA := (t_n 29 (t_n 11 (t_n 4 (t_n 1 (t_l 0 (a_iload 1 1)) (t_l 1 (a_inv true 195 1 none))) (t_n 7 (t_l 4 (a_if 18 (fun x => decide (x = 0)))) (t_n 8 (t_l 7 (a_iload 1 2)) (t_l 8 (a_if 18 (fun x => decide (x < 0))))))) (t_n 15 (t_n 12 (t_l 11 (a_iload 1 2)) (t_l 12 (a_push 3 (.int 9999)))) (t_n 21 (t_l 15 (a_ic 28 (fun x y => decide (x ≤ y)))) (t_n 28 (t_l 21 a_dup) (t_l 28 (a_aload 1 0)))))) (t_n 38 (t_n 33 (t_n 32 (t_l 29 (a_getf 11 7)) (t_l 32 (a_istore 4 1 3))) (t_n 34 (t_l 33 (a_aload 1 0)) (t_n 35 (t_l 34 (a_iload 1 1)) (t_l 35 (a_putf 0 11 7))))) (t_n 40 (t_n 39 (t_l 38 (a_aload 1 0)) (t_l 39 (a_iload 1 2))) (t_n 43 (t_l 40 (a_putf 0 11 8)) (t_n 44 (t_l 43 (a_iload 1 3)) (t_l 44 a_iret))))))
set_option maxRecDepth 100000 in
theorem k_X11_bounds (sc : Nat × (Nat → Int32)) (d : Nat) : ∀ pc, ev_Ok cX11_bounds 4 [] RX11 lw_g lw_n (lw_q sc) vwCl false (ev_CO mt lw_g lw_n (lw_q sc) vwCl d) pc (g_X11_bounds pc) := (ok_t_n (ok_t_n (ok_t_n (ok_t_n (ok_t_l (ok_iload_n dX11_bounds_0 rfl)) (ok_t_l (ok_inv (run_S (y := 195) (n := 1) dX11_bounds_1 cz_195 gdG cc_195 ci_195 w_253 cm_195 cd_195 cl_195)))) (ok_t_n (ok_t_l (ok_if_eq dX11_bounds_4 rfl)) (ok_t_n (ok_t_l (ok_iload_n dX11_bounds_7 rfl)) (ok_t_l (ok_if_lt dX11_bounds_8 rfl))))) (ok_t_n (ok_t_n (ok_t_l (ok_iload_n dX11_bounds_11 rfl)) (ok_t_l (ok_sipush dX11_bounds_12 rfl))) (ok_t_n (ok_t_l (ok_icmp_le dX11_bounds_15 rfl)) (ok_t_n (ok_t_l (ok_dup dX11_bounds_21)) (ok_t_l (ok_aload_n dX11_bounds_28 rfl)))))) (ok_t_n (ok_t_n (ok_t_n (ok_t_l (ok_getfield dX11_bounds_29 (ci := 11) (kf := 7) rfl inGX11 (by decide) w_1313)) (ok_t_l (ok_istore_n dX11_bounds_32 rfl))) (ok_t_n (ok_t_l (ok_aload_n dX11_bounds_33 rfl)) (ok_t_n (ok_t_l (ok_iload_n dX11_bounds_34 rfl)) (ok_t_l (ok_putfield dX11_bounds_35 (ci := 11) (kf := 7) rfl inGX11 (by decide) tyX11_ok nmX11 rfl w_1313 rfl))))) (ok_t_n (ok_t_n (ok_t_l (ok_aload_n dX11_bounds_38 rfl)) (ok_t_l (ok_iload_n dX11_bounds_39 rfl))) (ok_t_n (ok_t_l (ok_putfield dX11_bounds_40 (ci := 11) (kf := 8) rfl inGX11 (by decide) tyX11_ok nmX11 rfl w_1314 rfl)) (ok_t_n (ok_t_l (ok_iload_n dX11_bounds_43 rfl)) (ok_t_l (ok_ireturn dX11_bounds_44)))))))
theorem dX11_link_0 : decode cX11_link 0 = .ok (.iload_n 1, 1) := by decide +kernel
theorem dX11_link_1 : decode cX11_link 1 = .ok (.invokestatic 115, 3) := by decide +kernel
theorem dX11_link_4 : decode cX11_link 4 = .ok (.ifCond .ne 13, 3) := by decide +kernel
theorem dX11_link_7 : decode cX11_link 7 = .ok (.new 90, 3) := by decide +kernel
theorem dX11_link_10 : decode cX11_link 10 = .ok (.dup, 1) := by decide +kernel
theorem dX11_link_11 : decode cX11_link 11 = .ok (.ldc 123, 2) := by decide +kernel
theorem dX11_link_13 : decode cX11_link 13 = .ok (.invokespecial 94, 3) := by decide +kernel
theorem dX11_link_16 : decode cX11_link 16 = .ok (.athrow, 1) := by decide +kernel
theorem dX11_link_17 : decode cX11_link 17 = .ok (.aload_n 0, 1) := by decide +kernel
theorem dX11_link_18 : decode cX11_link 18 = .ok (.getfield 56, 3) := by decide +kernel
theorem dX11_link_21 : decode cX11_link 21 = .ok (.iload_n 1, 1) := by decide +kernel
theorem dX11_link_22 : decode cX11_link 22 = .ok (.iload_n 2, 1) := by decide +kernel
theorem dX11_link_23 : decode cX11_link 23 = .ok (.aload_n 0, 1) := by decide +kernel
theorem dX11_link_24 : decode cX11_link 24 = .ok (.getfield 44, 3) := by decide +kernel
theorem dX11_link_27 : decode cX11_link 27 = .ok (.aload_n 0, 1) := by decide +kernel
theorem dX11_link_28 : decode cX11_link 28 = .ok (.getfield 48, 3) := by decide +kernel
theorem dX11_link_31 : decode cX11_link 31 = .ok (.iconst (-1), 1) := by decide +kernel
theorem dX11_link_32 : decode cX11_link 32 = .ok (.invokevirtual 198, 3) := by decide +kernel
theorem dX11_link_35 : decode cX11_link 35 = .ok (.aload_n 0, 1) := by decide +kernel
theorem dX11_link_36 : decode cX11_link 36 = .ok (.getfield 56, 3) := by decide +kernel
theorem dX11_link_39 : decode cX11_link 39 = .ok (.aload_n 0, 1) := by decide +kernel
theorem dX11_link_40 : decode cX11_link 40 = .ok (.getfield 40, 3) := by decide +kernel
theorem dX11_link_43 : decode cX11_link 43 = .ok (.invokevirtual 202, 3) := by decide +kernel
theorem dX11_link_46 : decode cX11_link 46 = .ok (.aload_n 0, 1) := by decide +kernel
theorem dX11_link_47 : decode cX11_link 47 = .ok (.getfield 56, 3) := by decide +kernel
theorem dX11_link_50 : decode cX11_link 50 = .ok (.getfield 206, 3) := by decide +kernel
theorem dX11_link_53 : decode cX11_link 53 = .ok (.invokevirtual 210, 3) := by decide +kernel
theorem dX11_link_56 : decode cX11_link 56 = .ok (.ireturn, 1) := by decide +kernel
def g_X11_link : Nat → EA := (t_n 31 (t_n 21 (t_n 10 (t_n 1 (t_l 0 (a_iload 1 1)) (t_n 4 (t_l 1 (a_inv true 193 1 none)) (t_l 4 (a_if 17 (fun x => !decide (x = 0)))))) (t_n 17 (t_l 10 a_dup) (t_n 18 (t_l 17 (a_aload 1 0)) (t_l 18 (a_getf 11 5))))) (t_n 24 (t_n 22 (t_l 21 (a_iload 1 1)) (t_n 23 (t_l 22 (a_iload 1 2)) (t_l 23 (a_aload 1 0)))) (t_n 27 (t_l 24 (a_getf 11 7)) (t_n 28 (t_l 27 (a_aload 1 0)) (t_l 28 (a_getf 11 8)))))) (t_n 43 (t_n 36 (t_n 32 (t_l 31 (a_push 1 (.int (-1)))) (t_n 35 (t_l 32 (a_inv true 80 6 (some 5))) (t_l 35 (a_aload 1 0)))) (t_n 39 (t_l 36 (a_getf 11 5)) (t_n 40 (t_l 39 (a_aload 1 0)) (t_l 40 (a_getf 11 4))))) (t_n 50 (t_n 46 (t_l 43 (a_inv true 83 2 (some 5))) (t_n 47 (t_l 46 (a_aload 1 0)) (t_l 47 (a_getf 11 5)))) (t_n 53 (t_l 50 (a_getf 5 5)) (t_n 56 (t_l 53 (a_inv true 1 1 (some 0))) (t_l 56 a_iret))))))
set_option maxRecDepth 100000 in
theorem k_X11_link (sc : Nat × (Nat → Int32)) (d : Nat) : ∀ pc, ev_Ok cX11_link 3 [] RX11 lw_g lw_n (lw_q sc) vwCl false (ev_CO mt lw_g lw_n (lw_q sc) vwCl d) pc (g_X11_link pc) := (ok_t_n (ok_t_n (ok_t_n (ok_t_n (ok_t_l (ok_iload_n dX11_link_0 rfl)) (ok_t_n (ok_t_l (ok_inv (run_S (y := 193) (n := 1) dX11_link_1 cz_193 gdG cc_193 ci_193 w_199 cm_193 cd_193 cl_193))) (ok_t_l (ok_if_ne dX11_link_4 rfl)))) (ok_t_n (ok_t_l (ok_dup dX11_link_10)) (ok_t_n (ok_t_l (ok_aload_n dX11_link_17 rfl)) (ok_t_l (ok_getfield dX11_link_18 (ci := 11) (kf := 5) rfl inGX11 (by decide) w_1311))))) (ok_t_n (ok_t_n (ok_t_l (ok_iload_n dX11_link_21 rfl)) (ok_t_n (ok_t_l (ok_iload_n dX11_link_22 rfl)) (ok_t_l (ok_aload_n dX11_link_23 rfl)))) (ok_t_n (ok_t_l (ok_getfield dX11_link_24 (ci := 11) (kf := 7) rfl inGX11 (by decide) w_1313)) (ok_t_n (ok_t_l (ok_aload_n dX11_link_27 rfl)) (ok_t_l (ok_getfield dX11_link_28 (ci := 11) (kf := 8) rfl inGX11 (by decide) w_1314)))))) (ok_t_n (ok_t_n (ok_t_n (ok_t_l (ok_iconst dX11_link_31 rfl)) (ok_t_n (ok_t_l (ok_inv (run_V (y := 80) (n := 5) (ci := 5) dX11_link_32 cz_80 gdG cc_80 ci_80 w_262 cm_80 cs_80 cd_80 cl_80 rfl rfl))) (ok_t_l (ok_aload_n dX11_link_35 rfl)))) (ok_t_n (ok_t_l (ok_getfield dX11_link_36 (ci := 11) (kf := 5) rfl inGX11 (by decide) w_1311)) (ok_t_n (ok_t_l (ok_aload_n dX11_link_39 rfl)) (ok_t_l (ok_getfield dX11_link_40 (ci := 11) (kf := 4) rfl inGX11 (by decide) w_1310))))) (ok_t_n (ok_t_n (ok_t_l (ok_inv (run_V (y := 83) (n := 1) (ci := 5) dX11_link_43 cz_83 gdG cc_83 ci_83 w_584 cm_83 cs_83 cd_83 cl_83 rfl rfl))) (ok_t_n (ok_t_l (ok_aload_n dX11_link_46 rfl)) (ok_t_l (ok_getfield dX11_link_47 (ci := 11) (kf := 5) rfl inGX11 (by decide) w_1311)))) (ok_t_n (ok_t_l (ok_getfieldN dX11_link_50 (ci := 5) (kf := 5) rfl inGX5 (by decide) (nst_29))) (ok_t_n (ok_t_l (ok_inv (run_V (y := 1) (n := 0) (ci := 0) dX11_link_53 cz_1 gdG cc_1 ci_1 w_610 cm_1 cs_1 cd_1 cl_1 rfl rfl))) (ok_t_l (ok_ireturn dX11_link_56)))))))
theorem dX11_ofSection_0 : decode cX11_ofSection 0 = .ok (.aload_n 0, 1) := by decide +kernel
theorem dX11_ofSection_1 : decode cX11_ofSection 1 = .ok (.getfield 19, 3) := by decide +kernel
theorem dX11_ofSection_4 : decode cX11_ofSection 4 = .ok (.iload_n 1, 1) := by decide +kernel
theorem dX11_ofSection_5 : decode cX11_ofSection 5 = .ok (.invokevirtual 101, 3) := by decide +kernel
theorem dX11_ofSection_8 : decode cX11_ofSection 8 = .ok (.ifCond .ne 13, 3) := by decide +kernel
theorem dX11_ofSection_11 : decode cX11_ofSection 11 = .ok (.new 82, 3) := by decide +kernel
theorem dX11_ofSection_14 : decode cX11_ofSection 14 = .ok (.dup, 1) := by decide +kernel
theorem dX11_ofSection_15 : decode cX11_ofSection 15 = .ok (.ldc 102, 2) := by decide +kernel
theorem dX11_ofSection_17 : decode cX11_ofSection 17 = .ok (.invokespecial 86, 3) := by decide +kernel
theorem dX11_ofSection_20 : decode cX11_ofSection 20 = .ok (.athrow, 1) := by decide +kernel
theorem dX11_ofSection_21 : decode cX11_ofSection 21 = .ok (.iload_n 2, 1) := by decide +kernel
theorem dX11_ofSection_22 : decode cX11_ofSection 22 = .ok (.tableswitch 125 0 6 #[42, 51, 60, 69, 89, 101, 113], 42) := by decide +kernel
theorem dX11_ofSection_64 : decode cX11_ofSection 64 = .ok (.aload_n 0, 1) := by decide +kernel
theorem dX11_ofSection_65 : decode cX11_ofSection 65 = .ok (.getfield 19, 3) := by decide +kernel
theorem dX11_ofSection_68 : decode cX11_ofSection 68 = .ok (.iload_n 1, 1) := by decide +kernel
theorem dX11_ofSection_69 : decode cX11_ofSection 69 = .ok (.invokevirtual 125, 3) := by decide +kernel
theorem dX11_ofSection_72 : decode cX11_ofSection 72 = .ok (.ireturn, 1) := by decide +kernel
theorem dX11_ofSection_73 : decode cX11_ofSection 73 = .ok (.aload_n 0, 1) := by decide +kernel
theorem dX11_ofSection_74 : decode cX11_ofSection 74 = .ok (.getfield 19, 3) := by decide +kernel
theorem dX11_ofSection_77 : decode cX11_ofSection 77 = .ok (.iload_n 1, 1) := by decide +kernel
theorem dX11_ofSection_78 : decode cX11_ofSection 78 = .ok (.invokevirtual 215, 3) := by decide +kernel
theorem dX11_ofSection_81 : decode cX11_ofSection 81 = .ok (.ireturn, 1) := by decide +kernel
theorem dX11_ofSection_82 : decode cX11_ofSection 82 = .ok (.aload_n 0, 1) := by decide +kernel
theorem dX11_ofSection_83 : decode cX11_ofSection 83 = .ok (.getfield 19, 3) := by decide +kernel
theorem dX11_ofSection_86 : decode cX11_ofSection 86 = .ok (.iload_n 1, 1) := by decide +kernel
theorem dX11_ofSection_87 : decode cX11_ofSection 87 = .ok (.invokevirtual 135, 3) := by decide +kernel
theorem dX11_ofSection_90 : decode cX11_ofSection 90 = .ok (.ireturn, 1) := by decide +kernel
theorem dX11_ofSection_91 : decode cX11_ofSection 91 = .ok (.aload_n 0, 1) := by decide +kernel
theorem dX11_ofSection_92 : decode cX11_ofSection 92 = .ok (.getfield 56, 3) := by decide +kernel
theorem dX11_ofSection_95 : decode cX11_ofSection 95 = .ok (.getfield 218, 3) := by decide +kernel
theorem dX11_ofSection_98 : decode cX11_ofSection 98 = .ok (.iload_n 1, 1) := by decide +kernel
theorem dX11_ofSection_99 : decode cX11_ofSection 99 = .ok (.invokevirtual 222, 3) := by decide +kernel
theorem dX11_ofSection_102 : decode cX11_ofSection 102 = .ok (.ifCond .eq 7, 3) := by decide +kernel
theorem dX11_ofSection_105 : decode cX11_ofSection 105 = .ok (.iconst 1, 1) := by decide +kernel
theorem dX11_ofSection_106 : decode cX11_ofSection 106 = .ok (.goto 4, 3) := by decide +kernel
theorem dX11_ofSection_109 : decode cX11_ofSection 109 = .ok (.iconst 0, 1) := by decide +kernel
theorem dX11_ofSection_110 : decode cX11_ofSection 110 = .ok (.ireturn, 1) := by decide +kernel
theorem dX11_ofSection_111 : decode cX11_ofSection 111 = .ok (.aload_n 0, 1) := by decide +kernel
theorem dX11_ofSection_112 : decode cX11_ofSection 112 = .ok (.getfield 56, 3) := by decide +kernel
theorem dX11_ofSection_115 : decode cX11_ofSection 115 = .ok (.getfield 227, 3) := by decide +kernel
theorem dX11_ofSection_118 : decode cX11_ofSection 118 = .ok (.iload_n 1, 1) := by decide +kernel
theorem dX11_ofSection_119 : decode cX11_ofSection 119 = .ok (.invokevirtual 231, 3) := by decide +kernel
theorem dX11_ofSection_122 : decode cX11_ofSection 122 = .ok (.ireturn, 1) := by decide +kernel
theorem dX11_ofSection_123 : decode cX11_ofSection 123 = .ok (.aload_n 0, 1) := by decide +kernel
theorem dX11_ofSection_124 : decode cX11_ofSection 124 = .ok (.getfield 56, 3) := by decide +kernel
theorem dX11_ofSection_127 : decode cX11_ofSection 127 = .ok (.getfield 227, 3) := by decide +kernel
theorem dX11_ofSection_130 : decode cX11_ofSection 130 = .ok (.iload_n 1, 1) := by decide +kernel
theorem dX11_ofSection_131 : decode cX11_ofSection 131 = .ok (.invokevirtual 236, 3) := by decide +kernel
theorem dX11_ofSection_134 : decode cX11_ofSection 134 = .ok (.ireturn, 1) := by decide +kernel
theorem dX11_ofSection_135 : decode cX11_ofSection 135 = .ok (.aload_n 0, 1) := by decide +kernel
theorem dX11_ofSection_136 : decode cX11_ofSection 136 = .ok (.getfield 56, 3) := by decide +kernel
theorem dX11_ofSection_139 : decode cX11_ofSection 139 = .ok (.getfield 227, 3) := by decide +kernel
theorem dX11_ofSection_142 : decode cX11_ofSection 142 = .ok (.iload_n 1, 1) := by decide +kernel
theorem dX11_ofSection_143 : decode cX11_ofSection 143 = .ok (.invokevirtual 239, 3) := by decide +kernel
theorem dX11_ofSection_146 : decode cX11_ofSection 146 = .ok (.ireturn, 1) := by decide +kernel
theorem dX11_ofSection_147 : decode cX11_ofSection 147 = .ok (.new 90, 3) := by decide +kernel
theorem dX11_ofSection_150 : decode cX11_ofSection 150 = .ok (.dup, 1) := by decide +kernel
theorem dX11_ofSection_151 : decode cX11_ofSection 151 = .ok (.ldc 242, 2) := by decide +kernel
theorem dX11_ofSection_153 : decode cX11_ofSection 153 = .ok (.invokespecial 94, 3) := by decide +kernel
theorem dX11_ofSection_156 : decode cX11_ofSection 156 = .ok (.athrow, 1) := by decide +kernel
def g_X11_ofSection : Nat → EA := (t_n 98 (t_n 73 (t_n 21 (t_n 5 (t_n 1 (t_l 0 (a_aload 1 0)) (t_n 4 (t_l 1 (a_getf 11 1)) (t_l 4 (a_iload 1 1)))) (t_n 8 (t_l 5 (a_inv true 119 2 (some 8))) (t_n 14 (t_l 8 (a_if 21 (fun x => !decide (x = 0)))) (t_l 14 a_dup)))) (t_n 65 (t_n 22 (t_l 21 (a_iload 1 2)) (t_n 64 (t_l 22 (a_tsw 0 [64, 73, 82, 91, 111, 123, 135] 147)) (t_l 64 (a_aload 1 0)))) (t_n 69 (t_n 68 (t_l 65 (a_getf 11 1)) (t_l 68 (a_iload 1 1))) (t_n 72 (t_l 69 (a_inv true 123 2 (some 8))) (t_l 72 a_iret))))) (t_n 83 (t_n 78 (t_n 74 (t_l 73 (a_aload 1 0)) (t_n 77 (t_l 74 (a_getf 11 1)) (t_l 77 (a_iload 1 1)))) (t_n 81 (t_l 78 (a_inv true 124 2 (some 8))) (t_n 82 (t_l 81 a_iret) (t_l 82 (a_aload 1 0))))) (t_n 90 (t_n 86 (t_l 83 (a_getf 11 1)) (t_n 87 (t_l 86 (a_iload 1 1)) (t_l 87 (a_inv true 126 2 (some 8))))) (t_n 92 (t_n 91 (t_l 90 a_iret) (t_l 91 (a_aload 1 0))) (t_n 95 (t_l 92 (a_getf 11 5)) (t_l 95 (a_getf 5 3))))))) (t_n 123 (t_n 110 (t_n 105 (t_n 99 (t_l 98 (a_iload 1 1)) (t_n 102 (t_l 99 (a_inv true 105 2 (some 7))) (t_l 102 (a_if 109 (fun x => decide (x = 0)))))) (t_n 106 (t_l 105 (a_push 1 (.int 1))) (t_n 109 (t_l 106 (a_goto 110)) (t_l 109 (a_push 1 (.int 0)))))) (t_n 115 (t_n 111 (t_l 110 a_iret) (t_n 112 (t_l 111 (a_aload 1 0)) (t_l 112 (a_getf 11 5)))) (t_n 119 (t_n 118 (t_l 115 (a_getf 5 4)) (t_l 118 (a_iload 1 1))) (t_n 122 (t_l 119 (a_inv true 24 2 (some 3))) (t_l 122 a_iret))))) (t_n 135 (t_n 130 (t_n 124 (t_l 123 (a_aload 1 0)) (t_n 127 (t_l 124 (a_getf 11 5)) (t_l 127 (a_getf 5 4)))) (t_n 131 (t_l 130 (a_iload 1 1)) (t_n 134 (t_l 131 (a_inv true 25 2 (some 3))) (t_l 134 a_iret)))) (t_n 142 (t_n 136 (t_l 135 (a_aload 1 0)) (t_n 139 (t_l 136 (a_getf 11 5)) (t_l 139 (a_getf 5 4)))) (t_n 146 (t_n 143 (t_l 142 (a_iload 1 1)) (t_l 143 (a_inv true 26 2 (some 3)))) (t_n 150 (t_l 146 a_iret) (t_l 150 a_dup)))))))
set_option maxRecDepth 100000 in
theorem k_X11_ofSection (sc : Nat × (Nat → Int32)) (d : Nat) : ∀ pc, ev_Ok cX11_ofSection 3 [] RX11 lw_g lw_n (lw_q sc) vwCl false (ev_CO mt lw_g lw_n (lw_q sc) vwCl d) pc (g_X11_ofSection pc) := (ok_t_n (ok_t_n (ok_t_n (ok_t_n (ok_t_n (ok_t_l (ok_aload_n dX11_ofSection_0 rfl)) (ok_t_n (ok_t_l (ok_getfield dX11_ofSection_1 (ci := 11) (kf := 1) rfl inGX11 (by decide) w_1307)) (ok_t_l (ok_iload_n dX11_ofSection_4 rfl)))) (ok_t_n (ok_t_l (ok_inv (run_V (y := 119) (n := 1) (ci := 8) dX11_ofSection_5 cz_119 gdG cc_119 ci_119 w_619 cm_119 cs_119 cd_119 cl_119 rfl rfl))) (ok_t_n (ok_t_l (ok_if_ne dX11_ofSection_8 rfl)) (ok_t_l (ok_dup dX11_ofSection_14))))) (ok_t_n (ok_t_n (ok_t_l (ok_iload_n dX11_ofSection_21 rfl)) (ok_t_n (ok_t_l (ok_tsw dX11_ofSection_22 rfl rfl rfl)) (ok_t_l (ok_aload_n dX11_ofSection_64 rfl)))) (ok_t_n (ok_t_n (ok_t_l (ok_getfield dX11_ofSection_65 (ci := 11) (kf := 1) rfl inGX11 (by decide) w_1307)) (ok_t_l (ok_iload_n dX11_ofSection_68 rfl))) (ok_t_n (ok_t_l (ok_inv (run_V (y := 123) (n := 1) (ci := 8) dX11_ofSection_69 cz_123 gdG cc_123 ci_123 w_621 cm_123 cs_123 cd_123 cl_123 rfl rfl))) (ok_t_l (ok_ireturn dX11_ofSection_72)))))) (ok_t_n (ok_t_n (ok_t_n (ok_t_l (ok_aload_n dX11_ofSection_73 rfl)) (ok_t_n (ok_t_l (ok_getfield dX11_ofSection_74 (ci := 11) (kf := 1) rfl inGX11 (by decide) w_1307)) (ok_t_l (ok_iload_n dX11_ofSection_77 rfl)))) (ok_t_n (ok_t_l (ok_inv (run_V (y := 124) (n := 1) (ci := 8) dX11_ofSection_78 cz_124 gdG cc_124 ci_124 w_622 cm_124 cs_124 cd_124 cl_124 rfl rfl))) (ok_t_n (ok_t_l (ok_ireturn dX11_ofSection_81)) (ok_t_l (ok_aload_n dX11_ofSection_82 rfl))))) (ok_t_n (ok_t_n (ok_t_l (ok_getfield dX11_ofSection_83 (ci := 11) (kf := 1) rfl inGX11 (by decide) w_1307)) (ok_t_n (ok_t_l (ok_iload_n dX11_ofSection_86 rfl)) (ok_t_l (ok_inv (run_V (y := 126) (n := 1) (ci := 8) dX11_ofSection_87 cz_126 gdG cc_126 ci_126 w_623 cm_126 cs_126 cd_126 cl_126 rfl rfl))))) (ok_t_n (ok_t_n (ok_t_l (ok_ireturn dX11_ofSection_90)) (ok_t_l (ok_aload_n dX11_ofSection_91 rfl))) (ok_t_n (ok_t_l (ok_getfield dX11_ofSection_92 (ci := 11) (kf := 5) rfl inGX11 (by decide) w_1311)) (ok_t_l (ok_getfieldN dX11_ofSection_95 (ci := 5) (kf := 3) rfl inGX5 (by decide) (nst_25)))))))) (ok_t_n (ok_t_n (ok_t_n (ok_t_n (ok_t_l (ok_iload_n dX11_ofSection_98 rfl)) (ok_t_n (ok_t_l (ok_inv (run_V (y := 105) (n := 1) (ci := 7) dX11_ofSection_99 cz_105 gdG cc_105 ci_105 w_624 cm_105 cs_105 cd_105 cl_105 rfl rfl))) (ok_t_l (ok_if_eq dX11_ofSection_102 rfl)))) (ok_t_n (ok_t_l (ok_iconst dX11_ofSection_105 rfl)) (ok_t_n (ok_t_l (ok_goto dX11_ofSection_106 rfl)) (ok_t_l (ok_iconst dX11_ofSection_109 rfl))))) (ok_t_n (ok_t_n (ok_t_l (ok_ireturn dX11_ofSection_110)) (ok_t_n (ok_t_l (ok_aload_n dX11_ofSection_111 rfl)) (ok_t_l (ok_getfield dX11_ofSection_112 (ci := 11) (kf := 5) rfl inGX11 (by decide) w_1311)))) (ok_t_n (ok_t_n (ok_t_l (ok_getfieldN dX11_ofSection_115 (ci := 5) (kf := 4) rfl inGX5 (by decide) (nst_27))) (ok_t_l (ok_iload_n dX11_ofSection_118 rfl))) (ok_t_n (ok_t_l (ok_inv (run_V (y := 24) (n := 1) (ci := 3) dX11_ofSection_119 cz_24 gdG cc_24 ci_24 w_625 cm_24 cs_24 cd_24 cl_24 rfl rfl))) (ok_t_l (ok_ireturn dX11_ofSection_122)))))) (ok_t_n (ok_t_n (ok_t_n (ok_t_l (ok_aload_n dX11_ofSection_123 rfl)) (ok_t_n (ok_t_l (ok_getfield dX11_ofSection_124 (ci := 11) (kf := 5) rfl inGX11 (by decide) w_1311)) (ok_t_l (ok_getfieldN dX11_ofSection_127 (ci := 5) (kf := 4) rfl inGX5 (by decide) (nst_27))))) (ok_t_n (ok_t_l (ok_iload_n dX11_ofSection_130 rfl)) (ok_t_n (ok_t_l (ok_inv (run_V (y := 25) (n := 1) (ci := 3) dX11_ofSection_131 cz_25 gdG cc_25 ci_25 w_626 cm_25 cs_25 cd_25 cl_25 rfl rfl))) (ok_t_l (ok_ireturn dX11_ofSection_134))))) (ok_t_n (ok_t_n (ok_t_l (ok_aload_n dX11_ofSection_135 rfl)) (ok_t_n (ok_t_l (ok_getfield dX11_ofSection_136 (ci := 11) (kf := 5) rfl inGX11 (by decide) w_1311)) (ok_t_l (ok_getfieldN dX11_ofSection_139 (ci := 5) (kf := 4) rfl inGX5 (by decide) (nst_27))))) (ok_t_n (ok_t_n (ok_t_l (ok_iload_n dX11_ofSection_142 rfl)) (ok_t_l (ok_inv (run_V (y := 26) (n := 1) (ci := 3) dX11_ofSection_143 cz_26 gdG cc_26 ci_26 w_630 cm_26 cs_26 cd_26 cl_26 rfl rfl)))) (ok_t_n (ok_t_l (ok_ireturn dX11_ofSection_146)) (ok_t_l (ok_dup dX11_ofSection_150))))))))
theorem dX11_ofName_0 : decode cX11_ofName 0 = .ok (.iload_n 1, 1) := by decide +kernel
theorem dX11_ofName_1 : decode cX11_ofName 1 = .ok (.invokestatic 115, 3) := by decide +kernel
theorem dX11_ofName_4 : decode cX11_ofName 4 = .ok (.ifCond .ne 13, 3) := by decide +kernel
theorem dX11_ofName_7 : decode cX11_ofName 7 = .ok (.new 90, 3) := by decide +kernel
theorem dX11_ofName_10 : decode cX11_ofName 10 = .ok (.dup, 1) := by decide +kernel
theorem dX11_ofName_11 : decode cX11_ofName 11 = .ok (.ldc 123, 2) := by decide +kernel
theorem dX11_ofName_13 : decode cX11_ofName 13 = .ok (.invokespecial 94, 3) := by decide +kernel
theorem dX11_ofName_16 : decode cX11_ofName 16 = .ok (.athrow, 1) := by decide +kernel
theorem dX11_ofName_17 : decode cX11_ofName 17 = .ok (.iload_n 2, 1) := by decide +kernel
theorem dX11_ofName_18 : decode cX11_ofName 18 = .ok (.tableswitch 102 0 4 #[34, 46, 58, 70, 90], 34) := by decide +kernel
theorem dX11_ofName_52 : decode cX11_ofName 52 = .ok (.aload_n 0, 1) := by decide +kernel
theorem dX11_ofName_53 : decode cX11_ofName 53 = .ok (.getfield 56, 3) := by decide +kernel
theorem dX11_ofName_56 : decode cX11_ofName 56 = .ok (.getfield 244, 3) := by decide +kernel
theorem dX11_ofName_59 : decode cX11_ofName 59 = .ok (.iload_n 1, 1) := by decide +kernel
theorem dX11_ofName_60 : decode cX11_ofName 60 = .ok (.invokevirtual 248, 3) := by decide +kernel
theorem dX11_ofName_63 : decode cX11_ofName 63 = .ok (.ireturn, 1) := by decide +kernel
theorem dX11_ofName_64 : decode cX11_ofName 64 = .ok (.aload_n 0, 1) := by decide +kernel
theorem dX11_ofName_65 : decode cX11_ofName 65 = .ok (.getfield 56, 3) := by decide +kernel
theorem dX11_ofName_68 : decode cX11_ofName 68 = .ok (.getfield 244, 3) := by decide +kernel
theorem dX11_ofName_71 : decode cX11_ofName 71 = .ok (.iload_n 1, 1) := by decide +kernel
theorem dX11_ofName_72 : decode cX11_ofName 72 = .ok (.invokevirtual 252, 3) := by decide +kernel
theorem dX11_ofName_75 : decode cX11_ofName 75 = .ok (.ireturn, 1) := by decide +kernel
theorem dX11_ofName_76 : decode cX11_ofName 76 = .ok (.aload_n 0, 1) := by decide +kernel
theorem dX11_ofName_77 : decode cX11_ofName 77 = .ok (.getfield 56, 3) := by decide +kernel
theorem dX11_ofName_80 : decode cX11_ofName 80 = .ok (.getfield 227, 3) := by decide +kernel
theorem dX11_ofName_83 : decode cX11_ofName 83 = .ok (.iload_n 1, 1) := by decide +kernel
theorem dX11_ofName_84 : decode cX11_ofName 84 = .ok (.invokevirtual 253, 3) := by decide +kernel
theorem dX11_ofName_87 : decode cX11_ofName 87 = .ok (.ireturn, 1) := by decide +kernel
theorem dX11_ofName_88 : decode cX11_ofName 88 = .ok (.aload_n 0, 1) := by decide +kernel
theorem dX11_ofName_89 : decode cX11_ofName 89 = .ok (.getfield 56, 3) := by decide +kernel
theorem dX11_ofName_92 : decode cX11_ofName 92 = .ok (.getfield 218, 3) := by decide +kernel
theorem dX11_ofName_95 : decode cX11_ofName 95 = .ok (.iload_n 1, 1) := by decide +kernel
theorem dX11_ofName_96 : decode cX11_ofName 96 = .ok (.invokevirtual 256, 3) := by decide +kernel
theorem dX11_ofName_99 : decode cX11_ofName 99 = .ok (.ifCond .eq 7, 3) := by decide +kernel
theorem dX11_ofName_102 : decode cX11_ofName 102 = .ok (.iconst 1, 1) := by decide +kernel
theorem dX11_ofName_103 : decode cX11_ofName 103 = .ok (.goto 4, 3) := by decide +kernel
theorem dX11_ofName_106 : decode cX11_ofName 106 = .ok (.iconst 0, 1) := by decide +kernel
theorem dX11_ofName_107 : decode cX11_ofName 107 = .ok (.ireturn, 1) := by decide +kernel
theorem dX11_ofName_108 : decode cX11_ofName 108 = .ok (.aload_n 0, 1) := by decide +kernel
theorem dX11_ofName_109 : decode cX11_ofName 109 = .ok (.getfield 56, 3) := by decide +kernel
theorem dX11_ofName_112 : decode cX11_ofName 112 = .ok (.getfield 218, 3) := by decide +kernel
theorem dX11_ofName_115 : decode cX11_ofName 115 = .ok (.iload_n 1, 1) := by decide +kernel
theorem dX11_ofName_116 : decode cX11_ofName 116 = .ok (.invokevirtual 259, 3) := by decide +kernel
theorem dX11_ofName_119 : decode cX11_ofName 119 = .ok (.ireturn, 1) := by decide +kernel
theorem dX11_ofName_120 : decode cX11_ofName 120 = .ok (.new 90, 3) := by decide +kernel
theorem dX11_ofName_123 : decode cX11_ofName 123 = .ok (.dup, 1) := by decide +kernel
theorem dX11_ofName_124 : decode cX11_ofName 124 = .ok (.ldc_w 262, 3) := by decide +kernel
theorem dX11_ofName_127 : decode cX11_ofName 127 = .ok (.invokespecial 94, 3) := by decide +kernel
theorem dX11_ofName_130 : decode cX11_ofName 130 = .ok (.athrow, 1) := by decide +kernel
def g_X11_ofName : Nat → EA := (t_n 80 (t_n 60 (t_n 18 (t_n 4 (t_n 1 (t_l 0 (a_iload 1 1)) (t_l 1 (a_inv true 193 1 none))) (t_n 10 (t_l 4 (a_if 17 (fun x => !decide (x = 0)))) (t_n 17 (t_l 10 a_dup) (t_l 17 (a_iload 1 2))))) (t_n 53 (t_n 52 (t_l 18 (a_tsw 0 [52, 64, 76, 88, 108] 120)) (t_l 52 (a_aload 1 0))) (t_n 56 (t_l 53 (a_getf 11 5)) (t_n 59 (t_l 56 (a_getf 5 2)) (t_l 59 (a_iload 1 1)))))) (t_n 71 (t_n 64 (t_n 63 (t_l 60 (a_inv true 140 2 (some 9))) (t_l 63 a_iret)) (t_n 65 (t_l 64 (a_aload 1 0)) (t_n 68 (t_l 65 (a_getf 11 5)) (t_l 68 (a_getf 5 2))))) (t_n 75 (t_n 72 (t_l 71 (a_iload 1 1)) (t_l 72 (a_inv true 141 2 (some 9)))) (t_n 76 (t_l 75 a_iret) (t_n 77 (t_l 76 (a_aload 1 0)) (t_l 77 (a_getf 11 5))))))) (t_n 102 (t_n 89 (t_n 84 (t_n 83 (t_l 80 (a_getf 5 4)) (t_l 83 (a_iload 1 1))) (t_n 87 (t_l 84 (a_inv true 28 2 (some 3))) (t_n 88 (t_l 87 a_iret) (t_l 88 (a_aload 1 0))))) (t_n 95 (t_n 92 (t_l 89 (a_getf 11 5)) (t_l 92 (a_getf 5 3))) (t_n 96 (t_l 95 (a_iload 1 1)) (t_n 99 (t_l 96 (a_inv true 109 2 (some 7))) (t_l 99 (a_if 106 (fun x => decide (x = 0)))))))) (t_n 109 (t_n 106 (t_n 103 (t_l 102 (a_push 1 (.int 1))) (t_l 103 (a_goto 107))) (t_n 107 (t_l 106 (a_push 1 (.int 0))) (t_n 108 (t_l 107 a_iret) (t_l 108 (a_aload 1 0))))) (t_n 116 (t_n 112 (t_l 109 (a_getf 11 5)) (t_n 115 (t_l 112 (a_getf 5 3)) (t_l 115 (a_iload 1 1)))) (t_n 119 (t_l 116 (a_inv true 110 2 (some 7))) (t_n 123 (t_l 119 a_iret) (t_l 123 a_dup)))))))
set_option maxRecDepth 100000 in
theorem k_X11_ofName (sc : Nat × (Nat → Int32)) (d : Nat) : ∀ pc, ev_Ok cX11_ofName 3 [] RX11 lw_g lw_n (lw_q sc) vwCl false (ev_CO mt lw_g lw_n (lw_q sc) vwCl d) pc (g_X11_ofName pc) := (ok_t_n (ok_t_n (ok_t_n (ok_t_n (ok_t_n (ok_t_l (ok_iload_n dX11_ofName_0 rfl)) (ok_t_l (ok_inv (run_S (y := 193) (n := 1) dX11_ofName_1 cz_193 gdG cc_193 ci_193 w_199 cm_193 cd_193 cl_193)))) (ok_t_n (ok_t_l (ok_if_ne dX11_ofName_4 rfl)) (ok_t_n (ok_t_l (ok_dup dX11_ofName_10)) (ok_t_l (ok_iload_n dX11_ofName_17 rfl))))) (ok_t_n (ok_t_n (ok_t_l (ok_tsw dX11_ofName_18 rfl rfl rfl)) (ok_t_l (ok_aload_n dX11_ofName_52 rfl))) (ok_t_n (ok_t_l (ok_getfield dX11_ofName_53 (ci := 11) (kf := 5) rfl inGX11 (by decide) w_1311)) (ok_t_n (ok_t_l (ok_getfieldN dX11_ofName_56 (ci := 5) (kf := 2) rfl inGX5 (by decide) (nst_23))) (ok_t_l (ok_iload_n dX11_ofName_59 rfl)))))) (ok_t_n (ok_t_n (ok_t_n (ok_t_l (ok_inv (run_V (y := 140) (n := 1) (ci := 9) dX11_ofName_60 cz_140 gdG cc_140 ci_140 w_864 cm_140 cs_140 cd_140 cl_140 rfl rfl))) (ok_t_l (ok_ireturn dX11_ofName_63))) (ok_t_n (ok_t_l (ok_aload_n dX11_ofName_64 rfl)) (ok_t_n (ok_t_l (ok_getfield dX11_ofName_65 (ci := 11) (kf := 5) rfl inGX11 (by decide) w_1311)) (ok_t_l (ok_getfieldN dX11_ofName_68 (ci := 5) (kf := 2) rfl inGX5 (by decide) (nst_23)))))) (ok_t_n (ok_t_n (ok_t_l (ok_iload_n dX11_ofName_71 rfl)) (ok_t_l (ok_inv (run_V (y := 141) (n := 1) (ci := 9) dX11_ofName_72 cz_141 gdG cc_141 ci_141 w_865 cm_141 cs_141 cd_141 cl_141 rfl rfl)))) (ok_t_n (ok_t_l (ok_ireturn dX11_ofName_75)) (ok_t_n (ok_t_l (ok_aload_n dX11_ofName_76 rfl)) (ok_t_l (ok_getfield dX11_ofName_77 (ci := 11) (kf := 5) rfl inGX11 (by decide) w_1311))))))) (ok_t_n (ok_t_n (ok_t_n (ok_t_n (ok_t_l (ok_getfieldN dX11_ofName_80 (ci := 5) (kf := 4) rfl inGX5 (by decide) (nst_27))) (ok_t_l (ok_iload_n dX11_ofName_83 rfl))) (ok_t_n (ok_t_l (ok_inv (run_V (y := 28) (n := 1) (ci := 3) dX11_ofName_84 cz_28 gdG cc_28 ci_28 w_869 cm_28 cs_28 cd_28 cl_28 rfl rfl))) (ok_t_n (ok_t_l (ok_ireturn dX11_ofName_87)) (ok_t_l (ok_aload_n dX11_ofName_88 rfl))))) (ok_t_n (ok_t_n (ok_t_l (ok_getfield dX11_ofName_89 (ci := 11) (kf := 5) rfl inGX11 (by decide) w_1311)) (ok_t_l (ok_getfieldN dX11_ofName_92 (ci := 5) (kf := 3) rfl inGX5 (by decide) (nst_25)))) (ok_t_n (ok_t_l (ok_iload_n dX11_ofName_95 rfl)) (ok_t_n (ok_t_l (ok_inv (run_V (y := 109) (n := 1) (ci := 7) dX11_ofName_96 cz_109 gdG cc_109 ci_109 w_870 cm_109 cs_109 cd_109 cl_109 rfl rfl))) (ok_t_l (ok_if_eq dX11_ofName_99 rfl)))))) (ok_t_n (ok_t_n (ok_t_n (ok_t_l (ok_iconst dX11_ofName_102 rfl)) (ok_t_l (ok_goto dX11_ofName_103 rfl))) (ok_t_n (ok_t_l (ok_iconst dX11_ofName_106 rfl)) (ok_t_n (ok_t_l (ok_ireturn dX11_ofName_107)) (ok_t_l (ok_aload_n dX11_ofName_108 rfl))))) (ok_t_n (ok_t_n (ok_t_l (ok_getfield dX11_ofName_109 (ci := 11) (kf := 5) rfl inGX11 (by decide) w_1311)) (ok_t_n (ok_t_l (ok_getfieldN dX11_ofName_112 (ci := 5) (kf := 3) rfl inGX5 (by decide) (nst_25))) (ok_t_l (ok_iload_n dX11_ofName_115 rfl)))) (ok_t_n (ok_t_l (ok_inv (run_V (y := 110) (n := 1) (ci := 7) dX11_ofName_116 cz_110 gdG cc_110 ci_110 w_871 cm_110 cs_110 cd_110 cl_110 rfl rfl))) (ok_t_n (ok_t_l (ok_ireturn dX11_ofName_119)) (ok_t_l (ok_dup dX11_ofName_123))))))))
theorem dX11_fault_0 : decode cX11_fault 0 = .ok (.iload_n 1, 1) := by decide +kernel
theorem dX11_fault_1 : decode cX11_fault 1 = .ok (.ifCond .lt 17, 3) := by decide +kernel
theorem dX11_fault_4 : decode cX11_fault 4 = .ok (.iload_n 1, 1) := by decide +kernel
theorem dX11_fault_5 : decode cX11_fault 5 = .ok (.aload_n 0, 1) := by decide +kernel
theorem dX11_fault_6 : decode cX11_fault 6 = .ok (.getfield 56, 3) := by decide +kernel
theorem dX11_fault_9 : decode cX11_fault 9 = .ok (.getfield 206, 3) := by decide +kernel
theorem dX11_fault_12 : decode cX11_fault 12 = .ok (.invokevirtual 210, 3) := by decide +kernel
theorem dX11_fault_15 : decode cX11_fault 15 = .ok (.if_icmp .lt 14, 3) := by decide +kernel
theorem dX11_fault_18 : decode cX11_fault 18 = .ok (.new 82, 3) := by decide +kernel
theorem dX11_fault_21 : decode cX11_fault 21 = .ok (.dup, 1) := by decide +kernel
theorem dX11_fault_22 : decode cX11_fault 22 = .ok (.ldc_w 264, 3) := by decide +kernel
theorem dX11_fault_25 : decode cX11_fault 25 = .ok (.invokespecial 86, 3) := by decide +kernel
theorem dX11_fault_28 : decode cX11_fault 28 = .ok (.athrow, 1) := by decide +kernel
theorem dX11_fault_29 : decode cX11_fault 29 = .ok (.iload_n 2, 1) := by decide +kernel
theorem dX11_fault_30 : decode cX11_fault 30 = .ok (.ifCond .lt 8, 3) := by decide +kernel
theorem dX11_fault_33 : decode cX11_fault 33 = .ok (.iload_n 2, 1) := by decide +kernel
theorem dX11_fault_34 : decode cX11_fault 34 = .ok (.iconst 4, 1) := by decide +kernel
theorem dX11_fault_35 : decode cX11_fault 35 = .ok (.if_icmp .lt 13, 3) := by decide +kernel
theorem dX11_fault_38 : decode cX11_fault 38 = .ok (.new 90, 3) := by decide +kernel
theorem dX11_fault_41 : decode cX11_fault 41 = .ok (.dup, 1) := by decide +kernel
theorem dX11_fault_42 : decode cX11_fault 42 = .ok (.ldc 191, 2) := by decide +kernel
theorem dX11_fault_44 : decode cX11_fault 44 = .ok (.invokespecial 94, 3) := by decide +kernel
theorem dX11_fault_47 : decode cX11_fault 47 = .ok (.athrow, 1) := by decide +kernel
theorem dX11_fault_48 : decode cX11_fault 48 = .ok (.aload_n 0, 1) := by decide +kernel
theorem dX11_fault_49 : decode cX11_fault 49 = .ok (.getfield 56, 3) := by decide +kernel
theorem dX11_fault_52 : decode cX11_fault 52 = .ok (.getfield 206, 3) := by decide +kernel
theorem dX11_fault_55 : decode cX11_fault 55 = .ok (.iload_n 1, 1) := by decide +kernel
theorem dX11_fault_56 : decode cX11_fault 56 = .ok (.iload_n 2, 1) := by decide +kernel
theorem dX11_fault_57 : decode cX11_fault 57 = .ok (.invokevirtual 266, 3) := by decide +kernel
theorem dX11_fault_60 : decode cX11_fault 60 = .ok (.ireturn, 1) := by decide +kernel
def g_X11_fault : Nat → EA := (t_n 33 (t_n 9 (t_n 4 (t_n 1 (t_l 0 (a_iload 1 1)) (t_l 1 (a_if 18 (fun x => decide (x < 0))))) (t_n 5 (t_l 4 (a_iload 1 1)) (t_n 6 (t_l 5 (a_aload 1 0)) (t_l 6 (a_getf 11 5))))) (t_n 21 (t_n 12 (t_l 9 (a_getf 5 5)) (t_n 15 (t_l 12 (a_inv true 1 1 (some 0))) (t_l 15 (a_ic 29 (fun x y => decide (x < y)))))) (t_n 29 (t_l 21 a_dup) (t_n 30 (t_l 29 (a_iload 1 2)) (t_l 30 (a_if 38 (fun x => decide (x < 0)))))))) (t_n 49 (t_n 35 (t_n 34 (t_l 33 (a_iload 1 2)) (t_l 34 (a_push 1 (.int 4)))) (t_n 41 (t_l 35 (a_ic 48 (fun x y => decide (x < y)))) (t_n 48 (t_l 41 a_dup) (t_l 48 (a_aload 1 0))))) (t_n 56 (t_n 52 (t_l 49 (a_getf 11 5)) (t_n 55 (t_l 52 (a_getf 5 5)) (t_l 55 (a_iload 1 1)))) (t_n 57 (t_l 56 (a_iload 1 2)) (t_n 60 (t_l 57 (a_inv true 4 3 (some 0))) (t_l 60 a_iret))))))
set_option maxRecDepth 100000 in
theorem k_X11_fault (sc : Nat × (Nat → Int32)) (d : Nat) : ∀ pc, ev_Ok cX11_fault 3 [] RX11 lw_g lw_n (lw_q sc) vwCl false (ev_CO mt lw_g lw_n (lw_q sc) vwCl d) pc (g_X11_fault pc) := (ok_t_n (ok_t_n (ok_t_n (ok_t_n (ok_t_l (ok_iload_n dX11_fault_0 rfl)) (ok_t_l (ok_if_lt dX11_fault_1 rfl))) (ok_t_n (ok_t_l (ok_iload_n dX11_fault_4 rfl)) (ok_t_n (ok_t_l (ok_aload_n dX11_fault_5 rfl)) (ok_t_l (ok_getfield dX11_fault_6 (ci := 11) (kf := 5) rfl inGX11 (by decide) w_1311))))) (ok_t_n (ok_t_n (ok_t_l (ok_getfieldN dX11_fault_9 (ci := 5) (kf := 5) rfl inGX5 (by decide) (nst_29))) (ok_t_n (ok_t_l (ok_inv (run_V (y := 1) (n := 0) (ci := 0) dX11_fault_12 cz_1 gdG cc_1 ci_1 w_610 cm_1 cs_1 cd_1 cl_1 rfl rfl))) (ok_t_l (ok_icmp_lt dX11_fault_15 rfl)))) (ok_t_n (ok_t_l (ok_dup dX11_fault_21)) (ok_t_n (ok_t_l (ok_iload_n dX11_fault_29 rfl)) (ok_t_l (ok_if_lt dX11_fault_30 rfl)))))) (ok_t_n (ok_t_n (ok_t_n (ok_t_l (ok_iload_n dX11_fault_33 rfl)) (ok_t_l (ok_iconst dX11_fault_34 rfl))) (ok_t_n (ok_t_l (ok_icmp_lt dX11_fault_35 rfl)) (ok_t_n (ok_t_l (ok_dup dX11_fault_41)) (ok_t_l (ok_aload_n dX11_fault_48 rfl))))) (ok_t_n (ok_t_n (ok_t_l (ok_getfield dX11_fault_49 (ci := 11) (kf := 5) rfl inGX11 (by decide) w_1311)) (ok_t_n (ok_t_l (ok_getfieldN dX11_fault_52 (ci := 5) (kf := 5) rfl inGX5 (by decide) (nst_29))) (ok_t_l (ok_iload_n dX11_fault_55 rfl)))) (ok_t_n (ok_t_l (ok_iload_n dX11_fault_56 rfl)) (ok_t_n (ok_t_l (ok_inv (run_V (y := 4) (n := 2) (ci := 0) dX11_fault_57 cz_4 gdG cc_4 ci_4 w_885 cm_4 cs_4 cd_4 cl_4 rfl rfl))) (ok_t_l (ok_ireturn dX11_fault_60)))))))
theorem dX11_wordAt_0 : decode cX11_wordAt 0 = .ok (.iload_n 1, 1) := by decide +kernel
theorem dX11_wordAt_1 : decode cX11_wordAt 1 = .ok (.ifCond .lt 17, 3) := by decide +kernel
theorem dX11_wordAt_4 : decode cX11_wordAt 4 = .ok (.iload_n 1, 1) := by decide +kernel
theorem dX11_wordAt_5 : decode cX11_wordAt 5 = .ok (.aload_n 0, 1) := by decide +kernel
theorem dX11_wordAt_6 : decode cX11_wordAt 6 = .ok (.getfield 56, 3) := by decide +kernel
theorem dX11_wordAt_9 : decode cX11_wordAt 9 = .ok (.getfield 227, 3) := by decide +kernel
theorem dX11_wordAt_12 : decode cX11_wordAt 12 = .ok (.invokevirtual 269, 3) := by decide +kernel
theorem dX11_wordAt_15 : decode cX11_wordAt 15 = .ok (.if_icmp .lt 14, 3) := by decide +kernel
theorem dX11_wordAt_18 : decode cX11_wordAt 18 = .ok (.new 82, 3) := by decide +kernel
theorem dX11_wordAt_21 : decode cX11_wordAt 21 = .ok (.dup, 1) := by decide +kernel
theorem dX11_wordAt_22 : decode cX11_wordAt 22 = .ok (.ldc_w 272, 3) := by decide +kernel
theorem dX11_wordAt_25 : decode cX11_wordAt 25 = .ok (.invokespecial 86, 3) := by decide +kernel
theorem dX11_wordAt_28 : decode cX11_wordAt 28 = .ok (.athrow, 1) := by decide +kernel
theorem dX11_wordAt_29 : decode cX11_wordAt 29 = .ok (.aload_n 0, 1) := by decide +kernel
theorem dX11_wordAt_30 : decode cX11_wordAt 30 = .ok (.getfield 40, 3) := by decide +kernel
theorem dX11_wordAt_33 : decode cX11_wordAt 33 = .ok (.iload_n 1, 1) := by decide +kernel
theorem dX11_wordAt_34 : decode cX11_wordAt 34 = .ok (.invokevirtual 274, 3) := by decide +kernel
theorem dX11_wordAt_37 : decode cX11_wordAt 37 = .ok (.ireturn, 1) := by decide +kernel
def g_X11_wordAt : Nat → EA := (t_n 15 (t_n 5 (t_n 1 (t_l 0 (a_iload 1 1)) (t_n 4 (t_l 1 (a_if 18 (fun x => decide (x < 0)))) (t_l 4 (a_iload 1 1)))) (t_n 9 (t_n 6 (t_l 5 (a_aload 1 0)) (t_l 6 (a_getf 11 5))) (t_n 12 (t_l 9 (a_getf 5 4)) (t_l 12 (a_inv true 21 1 (some 3)))))) (t_n 30 (t_n 21 (t_l 15 (a_ic 29 (fun x y => decide (x < y)))) (t_n 29 (t_l 21 a_dup) (t_l 29 (a_aload 1 0)))) (t_n 34 (t_n 33 (t_l 30 (a_getf 11 4)) (t_l 33 (a_iload 1 1))) (t_n 37 (t_l 34 (a_inv true 8 2 (some 1))) (t_l 37 a_iret)))))
set_option maxRecDepth 100000 in
theorem k_X11_wordAt (sc : Nat × (Nat → Int32)) (d : Nat) : ∀ pc, ev_Ok cX11_wordAt 2 [] RX11 lw_g lw_n (lw_q sc) vwCl false (ev_CO mt lw_g lw_n (lw_q sc) vwCl d) pc (g_X11_wordAt pc) := (ok_t_n (ok_t_n (ok_t_n (ok_t_l (ok_iload_n dX11_wordAt_0 rfl)) (ok_t_n (ok_t_l (ok_if_lt dX11_wordAt_1 rfl)) (ok_t_l (ok_iload_n dX11_wordAt_4 rfl)))) (ok_t_n (ok_t_n (ok_t_l (ok_aload_n dX11_wordAt_5 rfl)) (ok_t_l (ok_getfield dX11_wordAt_6 (ci := 11) (kf := 5) rfl inGX11 (by decide) w_1311))) (ok_t_n (ok_t_l (ok_getfieldN dX11_wordAt_9 (ci := 5) (kf := 4) rfl inGX5 (by decide) (nst_27))) (ok_t_l (ok_inv (run_V (y := 21) (n := 0) (ci := 3) dX11_wordAt_12 cz_21 gdG cc_21 ci_21 w_639 cm_21 cs_21 cd_21 cl_21 rfl rfl)))))) (ok_t_n (ok_t_n (ok_t_l (ok_icmp_lt dX11_wordAt_15 rfl)) (ok_t_n (ok_t_l (ok_dup dX11_wordAt_21)) (ok_t_l (ok_aload_n dX11_wordAt_29 rfl)))) (ok_t_n (ok_t_n (ok_t_l (ok_getfield dX11_wordAt_30 (ci := 11) (kf := 4) rfl inGX11 (by decide) w_1310)) (ok_t_l (ok_iload_n dX11_wordAt_33 rfl))) (ok_t_n (ok_t_l (ok_inv (run_V (y := 8) (n := 1) (ci := 1) dX11_wordAt_34 cz_8 gdG cc_8 ci_8 w_641 cm_8 cs_8 cd_8 cl_8 rfl rfl))) (ok_t_l (ok_ireturn dX11_wordAt_37))))))
theorem dX11_publish_0 : decode cX11_publish 0 = .ok (.iload_n 1, 1) := by decide +kernel
theorem dX11_publish_1 : decode cX11_publish 1 = .ok (.ifCond .lt 23, 3) := by decide +kernel
theorem dX11_publish_4 : decode cX11_publish 4 = .ok (.iload_n 1, 1) := by decide +kernel
theorem dX11_publish_5 : decode cX11_publish 5 = .ok (.bipush 64, 2) := by decide +kernel
theorem dX11_publish_7 : decode cX11_publish 7 = .ok (.if_icmp .ge 17, 3) := by decide +kernel
theorem dX11_publish_10 : decode cX11_publish 10 = .ok (.iload_n 1, 1) := by decide +kernel
theorem dX11_publish_11 : decode cX11_publish 11 = .ok (.aload_n 0, 1) := by decide +kernel
theorem dX11_publish_12 : decode cX11_publish 12 = .ok (.getfield 33, 3) := by decide +kernel
theorem dX11_publish_15 : decode cX11_publish 15 = .ok (.invokevirtual 277, 3) := by decide +kernel
theorem dX11_publish_18 : decode cX11_publish 18 = .ok (.invokestatic 278, 3) := by decide +kernel
theorem dX11_publish_21 : decode cX11_publish 21 = .ok (.ifCond .eq 14, 3) := by decide +kernel
theorem dX11_publish_24 : decode cX11_publish 24 = .ok (.new 90, 3) := by decide +kernel
theorem dX11_publish_27 : decode cX11_publish 27 = .ok (.dup, 1) := by decide +kernel
theorem dX11_publish_28 : decode cX11_publish 28 = .ok (.ldc_w 282, 3) := by decide +kernel
theorem dX11_publish_31 : decode cX11_publish 31 = .ok (.invokespecial 94, 3) := by decide +kernel
theorem dX11_publish_34 : decode cX11_publish 34 = .ok (.athrow, 1) := by decide +kernel
theorem dX11_publish_35 : decode cX11_publish 35 = .ok (.aload_n 0, 1) := by decide +kernel
theorem dX11_publish_36 : decode cX11_publish 36 = .ok (.getfield 33, 3) := by decide +kernel
theorem dX11_publish_39 : decode cX11_publish 39 = .ok (.invokevirtual 284, 3) := by decide +kernel
theorem dX11_publish_42 : decode cX11_publish 42 = .ok (.ifCond .ne 36, 3) := by decide +kernel
theorem dX11_publish_45 : decode cX11_publish 45 = .ok (.aload_n 0, 1) := by decide +kernel
theorem dX11_publish_46 : decode cX11_publish 46 = .ok (.getfield 56, 3) := by decide +kernel
theorem dX11_publish_49 : decode cX11_publish 49 = .ok (.invokevirtual 285, 3) := by decide +kernel
theorem dX11_publish_52 : decode cX11_publish 52 = .ok (.ifCond .eq 26, 3) := by decide +kernel
theorem dX11_publish_55 : decode cX11_publish 55 = .ok (.aload_n 0, 1) := by decide +kernel
theorem dX11_publish_56 : decode cX11_publish 56 = .ok (.getfield 56, 3) := by decide +kernel
theorem dX11_publish_59 : decode cX11_publish 59 = .ok (.invokevirtual 288, 3) := by decide +kernel
theorem dX11_publish_62 : decode cX11_publish 62 = .ok (.ifCond .eq 16, 3) := by decide +kernel
theorem dX11_publish_65 : decode cX11_publish 65 = .ok (.aload_n 0, 1) := by decide +kernel
theorem dX11_publish_66 : decode cX11_publish 66 = .ok (.getfield 56, 3) := by decide +kernel
theorem dX11_publish_69 : decode cX11_publish 69 = .ok (.getfield 206, 3) := by decide +kernel
theorem dX11_publish_72 : decode cX11_publish 72 = .ok (.invokevirtual 210, 3) := by decide +kernel
theorem dX11_publish_75 : decode cX11_publish 75 = .ok (.ifCond .le 14, 3) := by decide +kernel
theorem dX11_publish_78 : decode cX11_publish 78 = .ok (.new 67, 3) := by decide +kernel
theorem dX11_publish_81 : decode cX11_publish 81 = .ok (.dup, 1) := by decide +kernel
theorem dX11_publish_82 : decode cX11_publish 82 = .ok (.ldc_w 291, 3) := by decide +kernel
theorem dX11_publish_85 : decode cX11_publish 85 = .ok (.invokespecial 71, 3) := by decide +kernel
theorem dX11_publish_88 : decode cX11_publish 88 = .ok (.athrow, 1) := by decide +kernel
theorem dX11_publish_89 : decode cX11_publish 89 = .ok (.aload_n 0, 1) := by decide +kernel
theorem dX11_publish_90 : decode cX11_publish 90 = .ok (.getfield 33, 3) := by decide +kernel
theorem dX11_publish_93 : decode cX11_publish 93 = .ok (.aload_n 0, 1) := by decide +kernel
theorem dX11_publish_94 : decode cX11_publish 94 = .ok (.getfield 56, 3) := by decide +kernel
theorem dX11_publish_97 : decode cX11_publish 97 = .ok (.iload_n 1, 1) := by decide +kernel
theorem dX11_publish_98 : decode cX11_publish 98 = .ok (.invokevirtual 293, 3) := by decide +kernel
theorem dX11_publish_101 : decode cX11_publish 101 = .ok (.ireturn, 1) := by decide +kernel
def g_X11_publish : Nat → EA := (t_n 49 (t_n 18 (t_n 7 (t_n 4 (t_n 1 (t_l 0 (a_iload 1 1)) (t_l 1 (a_if 24 (fun x => decide (x < 0))))) (t_n 5 (t_l 4 (a_iload 1 1)) (t_l 5 (a_push 2 (.int 64))))) (t_n 11 (t_n 10 (t_l 7 (a_ic 24 (fun x y => decide (y ≤ x)))) (t_l 10 (a_iload 1 1))) (t_n 12 (t_l 11 (a_aload 1 0)) (t_n 15 (t_l 12 (a_getf 11 3)) (t_l 15 (a_inv true 41 1 (some 4))))))) (t_n 36 (t_n 27 (t_n 21 (t_l 18 (a_inv true 196 2 none)) (t_l 21 (a_if 35 (fun x => decide (x = 0))))) (t_n 35 (t_l 27 a_dup) (t_l 35 (a_aload 1 0)))) (t_n 42 (t_n 39 (t_l 36 (a_getf 11 3)) (t_l 39 (a_inv true 42 1 (some 4)))) (t_n 45 (t_l 42 (a_if 78 (fun x => !decide (x = 0)))) (t_n 46 (t_l 45 (a_aload 1 0)) (t_l 46 (a_getf 11 5))))))) (t_n 72 (t_n 59 (t_n 55 (t_n 52 (t_l 49 (a_inv true 77 1 (some 5))) (t_l 52 (a_if 78 (fun x => decide (x = 0))))) (t_n 56 (t_l 55 (a_aload 1 0)) (t_l 56 (a_getf 11 5)))) (t_n 65 (t_n 62 (t_l 59 (a_inv true 78 1 (some 5))) (t_l 62 (a_if 78 (fun x => decide (x = 0))))) (t_n 66 (t_l 65 (a_aload 1 0)) (t_n 69 (t_l 66 (a_getf 11 5)) (t_l 69 (a_getf 5 5)))))) (t_n 93 (t_n 81 (t_n 75 (t_l 72 (a_inv true 1 1 (some 0))) (t_l 75 (a_if 89 (fun x => decide (x ≤ 0))))) (t_n 89 (t_l 81 a_dup) (t_n 90 (t_l 89 (a_aload 1 0)) (t_l 90 (a_getf 11 3))))) (t_n 97 (t_n 94 (t_l 93 (a_aload 1 0)) (t_l 94 (a_getf 11 5))) (t_n 98 (t_l 97 (a_iload 1 1)) (t_n 101 (t_l 98 (a_inv true 62 3 (some 4))) (t_l 101 a_iret)))))))
set_option maxRecDepth 100000 in
theorem k_X11_publish (sc : Nat × (Nat → Int32)) (d : Nat) : ∀ pc, ev_Ok cX11_publish 2 [] RX11 lw_g lw_n (lw_q sc) vwCl false (ev_CO mt lw_g lw_n (lw_q sc) vwCl d) pc (g_X11_publish pc) := (ok_t_n (ok_t_n (ok_t_n (ok_t_n (ok_t_n (ok_t_l (ok_iload_n dX11_publish_0 rfl)) (ok_t_l (ok_if_lt dX11_publish_1 rfl))) (ok_t_n (ok_t_l (ok_iload_n dX11_publish_4 rfl)) (ok_t_l (ok_bipush dX11_publish_5 rfl)))) (ok_t_n (ok_t_n (ok_t_l (ok_icmp_ge dX11_publish_7 rfl)) (ok_t_l (ok_iload_n dX11_publish_10 rfl))) (ok_t_n (ok_t_l (ok_aload_n dX11_publish_11 rfl)) (ok_t_n (ok_t_l (ok_getfield dX11_publish_12 (ci := 11) (kf := 3) rfl inGX11 (by decide) w_1309)) (ok_t_l (ok_inv (run_V (y := 41) (n := 0) (ci := 4) dX11_publish_15 cz_41 gdG cc_41 ci_41 w_649 cm_41 cs_41 cd_41 cl_41 rfl rfl))))))) (ok_t_n (ok_t_n (ok_t_n (ok_t_l (ok_inv (run_S (y := 196) (n := 2) dX11_publish_18 cz_196 gdG cc_196 ci_196 w_653 cm_196 cd_196 cl_196))) (ok_t_l (ok_if_eq dX11_publish_21 rfl))) (ok_t_n (ok_t_l (ok_dup dX11_publish_27)) (ok_t_l (ok_aload_n dX11_publish_35 rfl)))) (ok_t_n (ok_t_n (ok_t_l (ok_getfield dX11_publish_36 (ci := 11) (kf := 3) rfl inGX11 (by decide) w_1309)) (ok_t_l (ok_inv (run_V (y := 42) (n := 0) (ci := 4) dX11_publish_39 cz_42 gdG cc_42 ci_42 w_655 cm_42 cs_42 cd_42 cl_42 rfl rfl)))) (ok_t_n (ok_t_l (ok_if_ne dX11_publish_42 rfl)) (ok_t_n (ok_t_l (ok_aload_n dX11_publish_45 rfl)) (ok_t_l (ok_getfield dX11_publish_46 (ci := 11) (kf := 5) rfl inGX11 (by decide) w_1311))))))) (ok_t_n (ok_t_n (ok_t_n (ok_t_n (ok_t_l (ok_inv (run_V (y := 77) (n := 0) (ci := 5) dX11_publish_49 cz_77 gdG cc_77 ci_77 w_659 cm_77 cs_77 cd_77 cl_77 rfl rfl))) (ok_t_l (ok_if_eq dX11_publish_52 rfl))) (ok_t_n (ok_t_l (ok_aload_n dX11_publish_55 rfl)) (ok_t_l (ok_getfield dX11_publish_56 (ci := 11) (kf := 5) rfl inGX11 (by decide) w_1311)))) (ok_t_n (ok_t_n (ok_t_l (ok_inv (run_V (y := 78) (n := 0) (ci := 5) dX11_publish_59 cz_78 gdG cc_78 ci_78 w_663 cm_78 cs_78 cd_78 cl_78 rfl rfl))) (ok_t_l (ok_if_eq dX11_publish_62 rfl))) (ok_t_n (ok_t_l (ok_aload_n dX11_publish_65 rfl)) (ok_t_n (ok_t_l (ok_getfield dX11_publish_66 (ci := 11) (kf := 5) rfl inGX11 (by decide) w_1311)) (ok_t_l (ok_getfieldN dX11_publish_69 (ci := 5) (kf := 5) rfl inGX5 (by decide) (nst_29))))))) (ok_t_n (ok_t_n (ok_t_n (ok_t_l (ok_inv (run_V (y := 1) (n := 0) (ci := 0) dX11_publish_72 cz_1 gdG cc_1 ci_1 w_610 cm_1 cs_1 cd_1 cl_1 rfl rfl))) (ok_t_l (ok_if_le dX11_publish_75 rfl))) (ok_t_n (ok_t_l (ok_dup dX11_publish_81)) (ok_t_n (ok_t_l (ok_aload_n dX11_publish_89 rfl)) (ok_t_l (ok_getfield dX11_publish_90 (ci := 11) (kf := 3) rfl inGX11 (by decide) w_1309))))) (ok_t_n (ok_t_n (ok_t_l (ok_aload_n dX11_publish_93 rfl)) (ok_t_l (ok_getfield dX11_publish_94 (ci := 11) (kf := 5) rfl inGX11 (by decide) w_1311))) (ok_t_n (ok_t_l (ok_iload_n dX11_publish_97 rfl)) (ok_t_n (ok_t_l (ok_inv (run_V (y := 62) (n := 2) (ci := 4) dX11_publish_98 cz_62 gdG cc_62 ci_62 w_668 cm_62 cs_62 cd_62 cl_62 rfl rfl))) (ok_t_l (ok_ireturn dX11_publish_101))))))))
theorem dX11_open_0 : decode cX11_open 0 = .ok (.aload_n 0, 1) := by decide +kernel
theorem dX11_open_1 : decode cX11_open 1 = .ok (.getfield 33, 3) := by decide +kernel
theorem dX11_open_4 : decode cX11_open 4 = .ok (.iload_n 1, 1) := by decide +kernel
theorem dX11_open_5 : decode cX11_open 5 = .ok (.invokevirtual 296, 3) := by decide +kernel
theorem dX11_open_8 : decode cX11_open 8 = .ok (.ifCond .ne 14, 3) := by decide +kernel
theorem dX11_open_11 : decode cX11_open 11 = .ok (.new 82, 3) := by decide +kernel
theorem dX11_open_14 : decode cX11_open 14 = .ok (.dup, 1) := by decide +kernel
theorem dX11_open_15 : decode cX11_open 15 = .ok (.ldc_w 297, 3) := by decide +kernel
theorem dX11_open_18 : decode cX11_open 18 = .ok (.invokespecial 86, 3) := by decide +kernel
theorem dX11_open_21 : decode cX11_open 21 = .ok (.athrow, 1) := by decide +kernel
theorem dX11_open_22 : decode cX11_open 22 = .ok (.aload_n 0, 1) := by decide +kernel
theorem dX11_open_23 : decode cX11_open 23 = .ok (.getfield 33, 3) := by decide +kernel
theorem dX11_open_26 : decode cX11_open 26 = .ok (.iload_n 1, 1) := by decide +kernel
theorem dX11_open_27 : decode cX11_open 27 = .ok (.iload_n 2, 1) := by decide +kernel
theorem dX11_open_28 : decode cX11_open 28 = .ok (.invokevirtual 299, 3) := by decide +kernel
theorem dX11_open_31 : decode cX11_open 31 = .ok (.ireturn, 1) := by decide +kernel
def g_X11_open : Nat → EA := (t_n 22 (t_n 5 (t_n 1 (t_l 0 (a_aload 1 0)) (t_n 4 (t_l 1 (a_getf 11 3)) (t_l 4 (a_iload 1 1)))) (t_n 8 (t_l 5 (a_inv true 43 2 (some 4))) (t_n 14 (t_l 8 (a_if 22 (fun x => !decide (x = 0)))) (t_l 14 a_dup)))) (t_n 27 (t_n 23 (t_l 22 (a_aload 1 0)) (t_n 26 (t_l 23 (a_getf 11 3)) (t_l 26 (a_iload 1 1)))) (t_n 28 (t_l 27 (a_iload 1 2)) (t_n 31 (t_l 28 (a_inv true 66 3 (some 4))) (t_l 31 a_iret)))))
set_option maxRecDepth 100000 in
theorem k_X11_open (sc : Nat × (Nat → Int32)) (d : Nat) : ∀ pc, ev_Ok cX11_open 3 [] RX11 lw_g lw_n (lw_q sc) vwCl false (ev_CO mt lw_g lw_n (lw_q sc) vwCl d) pc (g_X11_open pc) := (ok_t_n (ok_t_n (ok_t_n (ok_t_l (ok_aload_n dX11_open_0 rfl)) (ok_t_n (ok_t_l (ok_getfield dX11_open_1 (ci := 11) (kf := 3) rfl inGX11 (by decide) w_1309)) (ok_t_l (ok_iload_n dX11_open_4 rfl)))) (ok_t_n (ok_t_l (ok_inv (run_V (y := 43) (n := 1) (ci := 4) dX11_open_5 cz_43 gdG cc_43 ci_43 w_687 cm_43 cs_43 cd_43 cl_43 rfl rfl))) (ok_t_n (ok_t_l (ok_if_ne dX11_open_8 rfl)) (ok_t_l (ok_dup dX11_open_14))))) (ok_t_n (ok_t_n (ok_t_l (ok_aload_n dX11_open_22 rfl)) (ok_t_n (ok_t_l (ok_getfield dX11_open_23 (ci := 11) (kf := 3) rfl inGX11 (by decide) w_1309)) (ok_t_l (ok_iload_n dX11_open_26 rfl)))) (ok_t_n (ok_t_l (ok_iload_n dX11_open_27 rfl)) (ok_t_n (ok_t_l (ok_inv (run_V (y := 66) (n := 2) (ci := 4) dX11_open_28 cz_66 gdG cc_66 ci_66 w_692 cm_66 cs_66 cd_66 cl_66 rfl rfl))) (ok_t_l (ok_ireturn dX11_open_31))))))
theorem dX11_close_0 : decode cX11_close 0 = .ok (.aload_n 0, 1) := by decide +kernel
theorem dX11_close_1 : decode cX11_close 1 = .ok (.getfield 33, 3) := by decide +kernel
theorem dX11_close_4 : decode cX11_close 4 = .ok (.iload_n 1, 1) := by decide +kernel
theorem dX11_close_5 : decode cX11_close 5 = .ok (.invokevirtual 296, 3) := by decide +kernel
theorem dX11_close_8 : decode cX11_close 8 = .ok (.ifCond .ne 14, 3) := by decide +kernel
theorem dX11_close_11 : decode cX11_close 11 = .ok (.new 82, 3) := by decide +kernel
theorem dX11_close_14 : decode cX11_close 14 = .ok (.dup, 1) := by decide +kernel
theorem dX11_close_15 : decode cX11_close 15 = .ok (.ldc_w 297, 3) := by decide +kernel
theorem dX11_close_18 : decode cX11_close 18 = .ok (.invokespecial 86, 3) := by decide +kernel
theorem dX11_close_21 : decode cX11_close 21 = .ok (.athrow, 1) := by decide +kernel
theorem dX11_close_22 : decode cX11_close 22 = .ok (.aload_n 0, 1) := by decide +kernel
theorem dX11_close_23 : decode cX11_close 23 = .ok (.getfield 33, 3) := by decide +kernel
theorem dX11_close_26 : decode cX11_close 26 = .ok (.iload_n 1, 1) := by decide +kernel
theorem dX11_close_27 : decode cX11_close 27 = .ok (.invokevirtual 303, 3) := by decide +kernel
theorem dX11_close_30 : decode cX11_close 30 = .ok (.ifCond .ne 14, 3) := by decide +kernel
theorem dX11_close_33 : decode cX11_close 33 = .ok (.new 67, 3) := by decide +kernel
theorem dX11_close_36 : decode cX11_close 36 = .ok (.dup, 1) := by decide +kernel
theorem dX11_close_37 : decode cX11_close 37 = .ok (.ldc_w 306, 3) := by decide +kernel
theorem dX11_close_40 : decode cX11_close 40 = .ok (.invokespecial 71, 3) := by decide +kernel
theorem dX11_close_43 : decode cX11_close 43 = .ok (.athrow, 1) := by decide +kernel
theorem dX11_close_44 : decode cX11_close 44 = .ok (.aload_n 0, 1) := by decide +kernel
theorem dX11_close_45 : decode cX11_close 45 = .ok (.getfield 33, 3) := by decide +kernel
theorem dX11_close_48 : decode cX11_close 48 = .ok (.iload_n 1, 1) := by decide +kernel
theorem dX11_close_49 : decode cX11_close 49 = .ok (.invokevirtual 308, 3) := by decide +kernel
theorem dX11_close_52 : decode cX11_close 52 = .ok (.ireturn, 1) := by decide +kernel
def g_X11_close : Nat → EA := (t_n 26 (t_n 8 (t_n 4 (t_n 1 (t_l 0 (a_aload 1 0)) (t_l 1 (a_getf 11 3))) (t_n 5 (t_l 4 (a_iload 1 1)) (t_l 5 (a_inv true 43 2 (some 4))))) (t_n 22 (t_n 14 (t_l 8 (a_if 22 (fun x => !decide (x = 0)))) (t_l 14 a_dup)) (t_n 23 (t_l 22 (a_aload 1 0)) (t_l 23 (a_getf 11 3))))) (t_n 44 (t_n 30 (t_n 27 (t_l 26 (a_iload 1 1)) (t_l 27 (a_inv true 48 2 (some 4)))) (t_n 36 (t_l 30 (a_if 44 (fun x => !decide (x = 0)))) (t_l 36 a_dup))) (t_n 48 (t_n 45 (t_l 44 (a_aload 1 0)) (t_l 45 (a_getf 11 3))) (t_n 49 (t_l 48 (a_iload 1 1)) (t_n 52 (t_l 49 (a_inv true 71 2 (some 4))) (t_l 52 a_iret))))))
set_option maxRecDepth 100000 in
theorem k_X11_close (sc : Nat × (Nat → Int32)) (d : Nat) : ∀ pc, ev_Ok cX11_close 2 [] RX11 lw_g lw_n (lw_q sc) vwCl false (ev_CO mt lw_g lw_n (lw_q sc) vwCl d) pc (g_X11_close pc) := (ok_t_n (ok_t_n (ok_t_n (ok_t_n (ok_t_l (ok_aload_n dX11_close_0 rfl)) (ok_t_l (ok_getfield dX11_close_1 (ci := 11) (kf := 3) rfl inGX11 (by decide) w_1309))) (ok_t_n (ok_t_l (ok_iload_n dX11_close_4 rfl)) (ok_t_l (ok_inv (run_V (y := 43) (n := 1) (ci := 4) dX11_close_5 cz_43 gdG cc_43 ci_43 w_687 cm_43 cs_43 cd_43 cl_43 rfl rfl))))) (ok_t_n (ok_t_n (ok_t_l (ok_if_ne dX11_close_8 rfl)) (ok_t_l (ok_dup dX11_close_14))) (ok_t_n (ok_t_l (ok_aload_n dX11_close_22 rfl)) (ok_t_l (ok_getfield dX11_close_23 (ci := 11) (kf := 3) rfl inGX11 (by decide) w_1309))))) (ok_t_n (ok_t_n (ok_t_n (ok_t_l (ok_iload_n dX11_close_26 rfl)) (ok_t_l (ok_inv (run_V (y := 48) (n := 1) (ci := 4) dX11_close_27 cz_48 gdG cc_48 ci_48 w_744 cm_48 cs_48 cd_48 cl_48 rfl rfl)))) (ok_t_n (ok_t_l (ok_if_ne dX11_close_30 rfl)) (ok_t_l (ok_dup dX11_close_36)))) (ok_t_n (ok_t_n (ok_t_l (ok_aload_n dX11_close_44 rfl)) (ok_t_l (ok_getfield dX11_close_45 (ci := 11) (kf := 3) rfl inGX11 (by decide) w_1309))) (ok_t_n (ok_t_l (ok_iload_n dX11_close_48 rfl)) (ok_t_n (ok_t_l (ok_inv (run_V (y := 71) (n := 1) (ci := 4) dX11_close_49 cz_71 gdG cc_71 ci_71 w_749 cm_71 cs_71 cd_71 cl_71 rfl rfl))) (ok_t_l (ok_ireturn dX11_close_52)))))))
theorem dX11_ofBinding_0 : decode cX11_ofBinding 0 = .ok (.aload_n 0, 1) := by decide +kernel
theorem dX11_ofBinding_1 : decode cX11_ofBinding 1 = .ok (.getfield 33, 3) := by decide +kernel
theorem dX11_ofBinding_4 : decode cX11_ofBinding 4 = .ok (.iload_n 1, 1) := by decide +kernel
theorem dX11_ofBinding_5 : decode cX11_ofBinding 5 = .ok (.invokevirtual 296, 3) := by decide +kernel
theorem dX11_ofBinding_8 : decode cX11_ofBinding 8 = .ok (.ifCond .ne 14, 3) := by decide +kernel
theorem dX11_ofBinding_11 : decode cX11_ofBinding 11 = .ok (.new 82, 3) := by decide +kernel
theorem dX11_ofBinding_14 : decode cX11_ofBinding 14 = .ok (.dup, 1) := by decide +kernel
theorem dX11_ofBinding_15 : decode cX11_ofBinding 15 = .ok (.ldc_w 297, 3) := by decide +kernel
theorem dX11_ofBinding_18 : decode cX11_ofBinding 18 = .ok (.invokespecial 86, 3) := by decide +kernel
theorem dX11_ofBinding_21 : decode cX11_ofBinding 21 = .ok (.athrow, 1) := by decide +kernel
theorem dX11_ofBinding_22 : decode cX11_ofBinding 22 = .ok (.iload_n 2, 1) := by decide +kernel
theorem dX11_ofBinding_23 : decode cX11_ofBinding 23 = .ok (.invokestatic 115, 3) := by decide +kernel
theorem dX11_ofBinding_26 : decode cX11_ofBinding 26 = .ok (.ifCond .ne 13, 3) := by decide +kernel
theorem dX11_ofBinding_29 : decode cX11_ofBinding 29 = .ok (.new 90, 3) := by decide +kernel
theorem dX11_ofBinding_32 : decode cX11_ofBinding 32 = .ok (.dup, 1) := by decide +kernel
theorem dX11_ofBinding_33 : decode cX11_ofBinding 33 = .ok (.ldc 123, 2) := by decide +kernel
theorem dX11_ofBinding_35 : decode cX11_ofBinding 35 = .ok (.invokespecial 94, 3) := by decide +kernel
theorem dX11_ofBinding_38 : decode cX11_ofBinding 38 = .ok (.athrow, 1) := by decide +kernel
theorem dX11_ofBinding_39 : decode cX11_ofBinding 39 = .ok (.iload_n 3, 1) := by decide +kernel
theorem dX11_ofBinding_40 : decode cX11_ofBinding 40 = .ok (.tableswitch 80 0 3 #[32, 42, 60, 70], 32) := by decide +kernel
theorem dX11_ofBinding_72 : decode cX11_ofBinding 72 = .ok (.aload_n 0, 1) := by decide +kernel
theorem dX11_ofBinding_73 : decode cX11_ofBinding 73 = .ok (.getfield 33, 3) := by decide +kernel
theorem dX11_ofBinding_76 : decode cX11_ofBinding 76 = .ok (.iload_n 1, 1) := by decide +kernel
theorem dX11_ofBinding_77 : decode cX11_ofBinding 77 = .ok (.iload_n 2, 1) := by decide +kernel
theorem dX11_ofBinding_78 : decode cX11_ofBinding 78 = .ok (.invokevirtual 321, 3) := by decide +kernel
theorem dX11_ofBinding_81 : decode cX11_ofBinding 81 = .ok (.ireturn, 1) := by decide +kernel
theorem dX11_ofBinding_82 : decode cX11_ofBinding 82 = .ok (.aload_n 0, 1) := by decide +kernel
theorem dX11_ofBinding_83 : decode cX11_ofBinding 83 = .ok (.getfield 33, 3) := by decide +kernel
theorem dX11_ofBinding_86 : decode cX11_ofBinding 86 = .ok (.iload_n 1, 1) := by decide +kernel
theorem dX11_ofBinding_87 : decode cX11_ofBinding 87 = .ok (.iload_n 2, 1) := by decide +kernel
theorem dX11_ofBinding_88 : decode cX11_ofBinding 88 = .ok (.invokevirtual 314, 3) := by decide +kernel
theorem dX11_ofBinding_91 : decode cX11_ofBinding 91 = .ok (.ifCond .eq 7, 3) := by decide +kernel
theorem dX11_ofBinding_94 : decode cX11_ofBinding 94 = .ok (.iconst 1, 1) := by decide +kernel
theorem dX11_ofBinding_95 : decode cX11_ofBinding 95 = .ok (.goto 4, 3) := by decide +kernel
theorem dX11_ofBinding_98 : decode cX11_ofBinding 98 = .ok (.iconst 0, 1) := by decide +kernel
theorem dX11_ofBinding_99 : decode cX11_ofBinding 99 = .ok (.ireturn, 1) := by decide +kernel
theorem dX11_ofBinding_100 : decode cX11_ofBinding 100 = .ok (.aload_n 0, 1) := by decide +kernel
theorem dX11_ofBinding_101 : decode cX11_ofBinding 101 = .ok (.getfield 33, 3) := by decide +kernel
theorem dX11_ofBinding_104 : decode cX11_ofBinding 104 = .ok (.iload_n 1, 1) := by decide +kernel
theorem dX11_ofBinding_105 : decode cX11_ofBinding 105 = .ok (.iload_n 2, 1) := by decide +kernel
theorem dX11_ofBinding_106 : decode cX11_ofBinding 106 = .ok (.invokevirtual 324, 3) := by decide +kernel
theorem dX11_ofBinding_109 : decode cX11_ofBinding 109 = .ok (.ireturn, 1) := by decide +kernel
theorem dX11_ofBinding_110 : decode cX11_ofBinding 110 = .ok (.aload_n 0, 1) := by decide +kernel
theorem dX11_ofBinding_111 : decode cX11_ofBinding 111 = .ok (.getfield 33, 3) := by decide +kernel
theorem dX11_ofBinding_114 : decode cX11_ofBinding 114 = .ok (.iload_n 1, 1) := by decide +kernel
theorem dX11_ofBinding_115 : decode cX11_ofBinding 115 = .ok (.iload_n 2, 1) := by decide +kernel
theorem dX11_ofBinding_116 : decode cX11_ofBinding 116 = .ok (.invokevirtual 327, 3) := by decide +kernel
theorem dX11_ofBinding_119 : decode cX11_ofBinding 119 = .ok (.ireturn, 1) := by decide +kernel
theorem dX11_ofBinding_120 : decode cX11_ofBinding 120 = .ok (.new 90, 3) := by decide +kernel
theorem dX11_ofBinding_123 : decode cX11_ofBinding 123 = .ok (.dup, 1) := by decide +kernel
theorem dX11_ofBinding_124 : decode cX11_ofBinding 124 = .ok (.ldc 191, 2) := by decide +kernel
theorem dX11_ofBinding_126 : decode cX11_ofBinding 126 = .ok (.invokespecial 94, 3) := by decide +kernel
theorem dX11_ofBinding_129 : decode cX11_ofBinding 129 = .ok (.athrow, 1) := by decide +kernel
def g_X11_ofBinding : Nat → EA := (t_n 86 (t_n 39 (t_n 14 (t_n 4 (t_n 1 (t_l 0 (a_aload 1 0)) (t_l 1 (a_getf 11 3))) (t_n 5 (t_l 4 (a_iload 1 1)) (t_n 8 (t_l 5 (a_inv true 43 2 (some 4))) (t_l 8 (a_if 22 (fun x => !decide (x = 0))))))) (t_n 23 (t_n 22 (t_l 14 a_dup) (t_l 22 (a_iload 1 2))) (t_n 26 (t_l 23 (a_inv true 193 1 none)) (t_n 32 (t_l 26 (a_if 39 (fun x => !decide (x = 0)))) (t_l 32 a_dup))))) (t_n 77 (t_n 72 (t_n 40 (t_l 39 (a_iload 1 3)) (t_l 40 (a_tsw 0 [72, 82, 100, 110] 120))) (t_n 73 (t_l 72 (a_aload 1 0)) (t_n 76 (t_l 73 (a_getf 11 3)) (t_l 76 (a_iload 1 1))))) (t_n 81 (t_n 78 (t_l 77 (a_iload 1 2)) (t_l 78 (a_inv true 53 3 (some 4)))) (t_n 82 (t_l 81 a_iret) (t_n 83 (t_l 82 (a_aload 1 0)) (t_l 83 (a_getf 11 3))))))) (t_n 104 (t_n 95 (t_n 88 (t_n 87 (t_l 86 (a_iload 1 1)) (t_l 87 (a_iload 1 2))) (t_n 91 (t_l 88 (a_inv true 52 3 (some 4))) (t_n 94 (t_l 91 (a_if 98 (fun x => decide (x = 0)))) (t_l 94 (a_push 1 (.int 1)))))) (t_n 99 (t_n 98 (t_l 95 (a_goto 99)) (t_l 98 (a_push 1 (.int 0)))) (t_n 100 (t_l 99 a_iret) (t_n 101 (t_l 100 (a_aload 1 0)) (t_l 101 (a_getf 11 3)))))) (t_n 111 (t_n 106 (t_n 105 (t_l 104 (a_iload 1 1)) (t_l 105 (a_iload 1 2))) (t_n 109 (t_l 106 (a_inv true 54 3 (some 4))) (t_n 110 (t_l 109 a_iret) (t_l 110 (a_aload 1 0))))) (t_n 116 (t_n 114 (t_l 111 (a_getf 11 3)) (t_n 115 (t_l 114 (a_iload 1 1)) (t_l 115 (a_iload 1 2)))) (t_n 119 (t_l 116 (a_inv true 55 3 (some 4))) (t_n 123 (t_l 119 a_iret) (t_l 123 a_dup)))))))
set_option maxRecDepth 100000 in
theorem k_X11_ofBinding (sc : Nat × (Nat → Int32)) (d : Nat) : ∀ pc, ev_Ok cX11_ofBinding 4 [] RX11 lw_g lw_n (lw_q sc) vwCl false (ev_CO mt lw_g lw_n (lw_q sc) vwCl d) pc (g_X11_ofBinding pc) := (ok_t_n (ok_t_n (ok_t_n (ok_t_n (ok_t_n (ok_t_l (ok_aload_n dX11_ofBinding_0 rfl)) (ok_t_l (ok_getfield dX11_ofBinding_1 (ci := 11) (kf := 3) rfl inGX11 (by decide) w_1309))) (ok_t_n (ok_t_l (ok_iload_n dX11_ofBinding_4 rfl)) (ok_t_n (ok_t_l (ok_inv (run_V (y := 43) (n := 1) (ci := 4) dX11_ofBinding_5 cz_43 gdG cc_43 ci_43 w_687 cm_43 cs_43 cd_43 cl_43 rfl rfl))) (ok_t_l (ok_if_ne dX11_ofBinding_8 rfl))))) (ok_t_n (ok_t_n (ok_t_l (ok_dup dX11_ofBinding_14)) (ok_t_l (ok_iload_n dX11_ofBinding_22 rfl))) (ok_t_n (ok_t_l (ok_inv (run_S (y := 193) (n := 1) dX11_ofBinding_23 cz_193 gdG cc_193 ci_193 w_199 cm_193 cd_193 cl_193))) (ok_t_n (ok_t_l (ok_if_ne dX11_ofBinding_26 rfl)) (ok_t_l (ok_dup dX11_ofBinding_32)))))) (ok_t_n (ok_t_n (ok_t_n (ok_t_l (ok_iload_n dX11_ofBinding_39 rfl)) (ok_t_l (ok_tsw dX11_ofBinding_40 rfl rfl rfl))) (ok_t_n (ok_t_l (ok_aload_n dX11_ofBinding_72 rfl)) (ok_t_n (ok_t_l (ok_getfield dX11_ofBinding_73 (ci := 11) (kf := 3) rfl inGX11 (by decide) w_1309)) (ok_t_l (ok_iload_n dX11_ofBinding_76 rfl))))) (ok_t_n (ok_t_n (ok_t_l (ok_iload_n dX11_ofBinding_77 rfl)) (ok_t_l (ok_inv (run_V (y := 53) (n := 2) (ci := 4) dX11_ofBinding_78 cz_53 gdG cc_53 ci_53 w_901 cm_53 cs_53 cd_53 cl_53 rfl rfl)))) (ok_t_n (ok_t_l (ok_ireturn dX11_ofBinding_81)) (ok_t_n (ok_t_l (ok_aload_n dX11_ofBinding_82 rfl)) (ok_t_l (ok_getfield dX11_ofBinding_83 (ci := 11) (kf := 3) rfl inGX11 (by decide) w_1309))))))) (ok_t_n (ok_t_n (ok_t_n (ok_t_n (ok_t_l (ok_iload_n dX11_ofBinding_86 rfl)) (ok_t_l (ok_iload_n dX11_ofBinding_87 rfl))) (ok_t_n (ok_t_l (ok_inv (run_V (y := 52) (n := 2) (ci := 4) dX11_ofBinding_88 cz_52 gdG cc_52 ci_52 w_911 cm_52 cs_52 cd_52 cl_52 rfl rfl))) (ok_t_n (ok_t_l (ok_if_eq dX11_ofBinding_91 rfl)) (ok_t_l (ok_iconst dX11_ofBinding_94 rfl))))) (ok_t_n (ok_t_n (ok_t_l (ok_goto dX11_ofBinding_95 rfl)) (ok_t_l (ok_iconst dX11_ofBinding_98 rfl))) (ok_t_n (ok_t_l (ok_ireturn dX11_ofBinding_99)) (ok_t_n (ok_t_l (ok_aload_n dX11_ofBinding_100 rfl)) (ok_t_l (ok_getfield dX11_ofBinding_101 (ci := 11) (kf := 3) rfl inGX11 (by decide) w_1309)))))) (ok_t_n (ok_t_n (ok_t_n (ok_t_l (ok_iload_n dX11_ofBinding_104 rfl)) (ok_t_l (ok_iload_n dX11_ofBinding_105 rfl))) (ok_t_n (ok_t_l (ok_inv (run_V (y := 54) (n := 2) (ci := 4) dX11_ofBinding_106 cz_54 gdG cc_54 ci_54 w_916 cm_54 cs_54 cd_54 cl_54 rfl rfl))) (ok_t_n (ok_t_l (ok_ireturn dX11_ofBinding_109)) (ok_t_l (ok_aload_n dX11_ofBinding_110 rfl))))) (ok_t_n (ok_t_n (ok_t_l (ok_getfield dX11_ofBinding_111 (ci := 11) (kf := 3) rfl inGX11 (by decide) w_1309)) (ok_t_n (ok_t_l (ok_iload_n dX11_ofBinding_114 rfl)) (ok_t_l (ok_iload_n dX11_ofBinding_115 rfl)))) (ok_t_n (ok_t_l (ok_inv (run_V (y := 55) (n := 2) (ci := 4) dX11_ofBinding_116 cz_55 gdG cc_55 ci_55 w_920 cm_55 cs_55 cd_55 cl_55 rfl rfl))) (ok_t_n (ok_t_l (ok_ireturn dX11_ofBinding_119)) (ok_t_l (ok_dup dX11_ofBinding_123))))))))
theorem dX11_ofLibrary_0 : decode cX11_ofLibrary 0 = .ok (.aload_n 0, 1) := by decide +kernel
theorem dX11_ofLibrary_1 : decode cX11_ofLibrary 1 = .ok (.getfield 33, 3) := by decide +kernel
theorem dX11_ofLibrary_4 : decode cX11_ofLibrary 4 = .ok (.iload_n 1, 1) := by decide +kernel
theorem dX11_ofLibrary_5 : decode cX11_ofLibrary 5 = .ok (.invokevirtual 296, 3) := by decide +kernel
theorem dX11_ofLibrary_8 : decode cX11_ofLibrary 8 = .ok (.ifCond .ne 14, 3) := by decide +kernel
theorem dX11_ofLibrary_11 : decode cX11_ofLibrary 11 = .ok (.new 82, 3) := by decide +kernel
theorem dX11_ofLibrary_14 : decode cX11_ofLibrary 14 = .ok (.dup, 1) := by decide +kernel
theorem dX11_ofLibrary_15 : decode cX11_ofLibrary 15 = .ok (.ldc_w 297, 3) := by decide +kernel
theorem dX11_ofLibrary_18 : decode cX11_ofLibrary 18 = .ok (.invokespecial 86, 3) := by decide +kernel
theorem dX11_ofLibrary_21 : decode cX11_ofLibrary 21 = .ok (.athrow, 1) := by decide +kernel
theorem dX11_ofLibrary_22 : decode cX11_ofLibrary 22 = .ok (.iload_n 2, 1) := by decide +kernel
theorem dX11_ofLibrary_23 : decode cX11_ofLibrary 23 = .ok (.tableswitch 123 0 7 #[45, 54, 66, 78, 87, 96, 105, 114], 45) := by decide +kernel
theorem dX11_ofLibrary_68 : decode cX11_ofLibrary 68 = .ok (.aload_n 0, 1) := by decide +kernel
theorem dX11_ofLibrary_69 : decode cX11_ofLibrary 69 = .ok (.getfield 33, 3) := by decide +kernel
theorem dX11_ofLibrary_72 : decode cX11_ofLibrary 72 = .ok (.iload_n 1, 1) := by decide +kernel
theorem dX11_ofLibrary_73 : decode cX11_ofLibrary 73 = .ok (.invokevirtual 330, 3) := by decide +kernel
theorem dX11_ofLibrary_76 : decode cX11_ofLibrary 76 = .ok (.ireturn, 1) := by decide +kernel
theorem dX11_ofLibrary_77 : decode cX11_ofLibrary 77 = .ok (.aload_n 0, 1) := by decide +kernel
theorem dX11_ofLibrary_78 : decode cX11_ofLibrary 78 = .ok (.getfield 33, 3) := by decide +kernel
theorem dX11_ofLibrary_81 : decode cX11_ofLibrary 81 = .ok (.iload_n 1, 1) := by decide +kernel
theorem dX11_ofLibrary_82 : decode cX11_ofLibrary 82 = .ok (.invokevirtual 332, 3) := by decide +kernel
theorem dX11_ofLibrary_85 : decode cX11_ofLibrary 85 = .ok (.invokestatic 155, 3) := by decide +kernel
theorem dX11_ofLibrary_88 : decode cX11_ofLibrary 88 = .ok (.ireturn, 1) := by decide +kernel
theorem dX11_ofLibrary_89 : decode cX11_ofLibrary 89 = .ok (.aload_n 0, 1) := by decide +kernel
theorem dX11_ofLibrary_90 : decode cX11_ofLibrary 90 = .ok (.getfield 33, 3) := by decide +kernel
theorem dX11_ofLibrary_93 : decode cX11_ofLibrary 93 = .ok (.iload_n 1, 1) := by decide +kernel
theorem dX11_ofLibrary_94 : decode cX11_ofLibrary 94 = .ok (.invokevirtual 335, 3) := by decide +kernel
theorem dX11_ofLibrary_97 : decode cX11_ofLibrary 97 = .ok (.invokestatic 155, 3) := by decide +kernel
theorem dX11_ofLibrary_100 : decode cX11_ofLibrary 100 = .ok (.ireturn, 1) := by decide +kernel
theorem dX11_ofLibrary_101 : decode cX11_ofLibrary 101 = .ok (.aload_n 0, 1) := by decide +kernel
theorem dX11_ofLibrary_102 : decode cX11_ofLibrary 102 = .ok (.getfield 33, 3) := by decide +kernel
theorem dX11_ofLibrary_105 : decode cX11_ofLibrary 105 = .ok (.iload_n 1, 1) := by decide +kernel
theorem dX11_ofLibrary_106 : decode cX11_ofLibrary 106 = .ok (.invokevirtual 338, 3) := by decide +kernel
theorem dX11_ofLibrary_109 : decode cX11_ofLibrary 109 = .ok (.ireturn, 1) := by decide +kernel
theorem dX11_ofLibrary_110 : decode cX11_ofLibrary 110 = .ok (.aload_n 0, 1) := by decide +kernel
theorem dX11_ofLibrary_111 : decode cX11_ofLibrary 111 = .ok (.getfield 33, 3) := by decide +kernel
theorem dX11_ofLibrary_114 : decode cX11_ofLibrary 114 = .ok (.iload_n 1, 1) := by decide +kernel
theorem dX11_ofLibrary_115 : decode cX11_ofLibrary 115 = .ok (.invokevirtual 303, 3) := by decide +kernel
theorem dX11_ofLibrary_118 : decode cX11_ofLibrary 118 = .ok (.ireturn, 1) := by decide +kernel
theorem dX11_ofLibrary_119 : decode cX11_ofLibrary 119 = .ok (.aload_n 0, 1) := by decide +kernel
theorem dX11_ofLibrary_120 : decode cX11_ofLibrary 120 = .ok (.getfield 33, 3) := by decide +kernel
theorem dX11_ofLibrary_123 : decode cX11_ofLibrary 123 = .ok (.iload_n 1, 1) := by decide +kernel
theorem dX11_ofLibrary_124 : decode cX11_ofLibrary 124 = .ok (.invokevirtual 341, 3) := by decide +kernel
theorem dX11_ofLibrary_127 : decode cX11_ofLibrary 127 = .ok (.ireturn, 1) := by decide +kernel
theorem dX11_ofLibrary_128 : decode cX11_ofLibrary 128 = .ok (.aload_n 0, 1) := by decide +kernel
theorem dX11_ofLibrary_129 : decode cX11_ofLibrary 129 = .ok (.getfield 33, 3) := by decide +kernel
theorem dX11_ofLibrary_132 : decode cX11_ofLibrary 132 = .ok (.iload_n 1, 1) := by decide +kernel
theorem dX11_ofLibrary_133 : decode cX11_ofLibrary 133 = .ok (.invokevirtual 344, 3) := by decide +kernel
theorem dX11_ofLibrary_136 : decode cX11_ofLibrary 136 = .ok (.ireturn, 1) := by decide +kernel
theorem dX11_ofLibrary_137 : decode cX11_ofLibrary 137 = .ok (.aload_n 0, 1) := by decide +kernel
theorem dX11_ofLibrary_138 : decode cX11_ofLibrary 138 = .ok (.getfield 33, 3) := by decide +kernel
theorem dX11_ofLibrary_141 : decode cX11_ofLibrary 141 = .ok (.iload_n 1, 1) := by decide +kernel
theorem dX11_ofLibrary_142 : decode cX11_ofLibrary 142 = .ok (.invokevirtual 347, 3) := by decide +kernel
theorem dX11_ofLibrary_145 : decode cX11_ofLibrary 145 = .ok (.ireturn, 1) := by decide +kernel
theorem dX11_ofLibrary_146 : decode cX11_ofLibrary 146 = .ok (.new 90, 3) := by decide +kernel
theorem dX11_ofLibrary_149 : decode cX11_ofLibrary 149 = .ok (.dup, 1) := by decide +kernel
theorem dX11_ofLibrary_150 : decode cX11_ofLibrary 150 = .ok (.ldc_w 350, 3) := by decide +kernel
theorem dX11_ofLibrary_153 : decode cX11_ofLibrary 153 = .ok (.invokespecial 94, 3) := by decide +kernel
theorem dX11_ofLibrary_156 : decode cX11_ofLibrary 156 = .ok (.athrow, 1) := by decide +kernel
def g_X11_ofLibrary : Nat → EA := (t_n 101 (t_n 76 (t_n 22 (t_n 5 (t_n 1 (t_l 0 (a_aload 1 0)) (t_n 4 (t_l 1 (a_getf 11 3)) (t_l 4 (a_iload 1 1)))) (t_n 8 (t_l 5 (a_inv true 43 2 (some 4))) (t_n 14 (t_l 8 (a_if 22 (fun x => !decide (x = 0)))) (t_l 14 a_dup)))) (t_n 69 (t_n 23 (t_l 22 (a_iload 1 2)) (t_n 68 (t_l 23 (a_tsw 0 [68, 77, 89, 101, 110, 119, 128, 137] 146)) (t_l 68 (a_aload 1 0)))) (t_n 72 (t_l 69 (a_getf 11 3)) (t_n 73 (t_l 72 (a_iload 1 1)) (t_l 73 (a_inv true 44 2 (some 4))))))) (t_n 88 (t_n 81 (t_n 77 (t_l 76 a_iret) (t_n 78 (t_l 77 (a_aload 1 0)) (t_l 78 (a_getf 11 3)))) (t_n 82 (t_l 81 (a_iload 1 1)) (t_n 85 (t_l 82 (a_inv true 46 2 (some 4))) (t_l 85 (a_inv true 209 1 none))))) (t_n 93 (t_n 89 (t_l 88 a_iret) (t_n 90 (t_l 89 (a_aload 1 0)) (t_l 90 (a_getf 11 3)))) (t_n 97 (t_n 94 (t_l 93 (a_iload 1 1)) (t_l 94 (a_inv true 47 2 (some 4)))) (t_n 100 (t_l 97 (a_inv true 209 1 none)) (t_l 100 a_iret)))))) (t_n 124 (t_n 111 (t_n 106 (t_n 102 (t_l 101 (a_aload 1 0)) (t_n 105 (t_l 102 (a_getf 11 3)) (t_l 105 (a_iload 1 1)))) (t_n 109 (t_l 106 (a_inv true 45 2 (some 4))) (t_n 110 (t_l 109 a_iret) (t_l 110 (a_aload 1 0))))) (t_n 118 (t_n 114 (t_l 111 (a_getf 11 3)) (t_n 115 (t_l 114 (a_iload 1 1)) (t_l 115 (a_inv true 48 2 (some 4))))) (t_n 120 (t_n 119 (t_l 118 a_iret) (t_l 119 (a_aload 1 0))) (t_n 123 (t_l 120 (a_getf 11 3)) (t_l 123 (a_iload 1 1)))))) (t_n 136 (t_n 129 (t_n 127 (t_l 124 (a_inv true 49 2 (some 4))) (t_n 128 (t_l 127 a_iret) (t_l 128 (a_aload 1 0)))) (t_n 132 (t_l 129 (a_getf 11 3)) (t_n 133 (t_l 132 (a_iload 1 1)) (t_l 133 (a_inv true 56 2 (some 4)))))) (t_n 141 (t_n 137 (t_l 136 a_iret) (t_n 138 (t_l 137 (a_aload 1 0)) (t_l 138 (a_getf 11 3)))) (t_n 145 (t_n 142 (t_l 141 (a_iload 1 1)) (t_l 142 (a_inv true 57 2 (some 4)))) (t_n 149 (t_l 145 a_iret) (t_l 149 a_dup)))))))
set_option maxRecDepth 100000 in
theorem k_X11_ofLibrary (sc : Nat × (Nat → Int32)) (d : Nat) : ∀ pc, ev_Ok cX11_ofLibrary 3 [] RX11 lw_g lw_n (lw_q sc) vwCl false (ev_CO mt lw_g lw_n (lw_q sc) vwCl d) pc (g_X11_ofLibrary pc) := (ok_t_n (ok_t_n (ok_t_n (ok_t_n (ok_t_n (ok_t_l (ok_aload_n dX11_ofLibrary_0 rfl)) (ok_t_n (ok_t_l (ok_getfield dX11_ofLibrary_1 (ci := 11) (kf := 3) rfl inGX11 (by decide) w_1309)) (ok_t_l (ok_iload_n dX11_ofLibrary_4 rfl)))) (ok_t_n (ok_t_l (ok_inv (run_V (y := 43) (n := 1) (ci := 4) dX11_ofLibrary_5 cz_43 gdG cc_43 ci_43 w_687 cm_43 cs_43 cd_43 cl_43 rfl rfl))) (ok_t_n (ok_t_l (ok_if_ne dX11_ofLibrary_8 rfl)) (ok_t_l (ok_dup dX11_ofLibrary_14))))) (ok_t_n (ok_t_n (ok_t_l (ok_iload_n dX11_ofLibrary_22 rfl)) (ok_t_n (ok_t_l (ok_tsw dX11_ofLibrary_23 rfl rfl rfl)) (ok_t_l (ok_aload_n dX11_ofLibrary_68 rfl)))) (ok_t_n (ok_t_l (ok_getfield dX11_ofLibrary_69 (ci := 11) (kf := 3) rfl inGX11 (by decide) w_1309)) (ok_t_n (ok_t_l (ok_iload_n dX11_ofLibrary_72 rfl)) (ok_t_l (ok_inv (run_V (y := 44) (n := 1) (ci := 4) dX11_ofLibrary_73 cz_44 gdG cc_44 ci_44 w_773 cm_44 cs_44 cd_44 cl_44 rfl rfl))))))) (ok_t_n (ok_t_n (ok_t_n (ok_t_l (ok_ireturn dX11_ofLibrary_76)) (ok_t_n (ok_t_l (ok_aload_n dX11_ofLibrary_77 rfl)) (ok_t_l (ok_getfield dX11_ofLibrary_78 (ci := 11) (kf := 3) rfl inGX11 (by decide) w_1309)))) (ok_t_n (ok_t_l (ok_iload_n dX11_ofLibrary_81 rfl)) (ok_t_n (ok_t_l (ok_inv (run_V (y := 46) (n := 1) (ci := 4) dX11_ofLibrary_82 cz_46 gdG cc_46 ci_46 w_777 cm_46 cs_46 cd_46 cl_46 rfl rfl))) (ok_t_l (ok_inv (run_S (y := 209) (n := 1) dX11_ofLibrary_85 cz_209 gdG cc_209 ci_209 w_225 cm_209 cd_209 cl_209)))))) (ok_t_n (ok_t_n (ok_t_l (ok_ireturn dX11_ofLibrary_88)) (ok_t_n (ok_t_l (ok_aload_n dX11_ofLibrary_89 rfl)) (ok_t_l (ok_getfield dX11_ofLibrary_90 (ci := 11) (kf := 3) rfl inGX11 (by decide) w_1309)))) (ok_t_n (ok_t_n (ok_t_l (ok_iload_n dX11_ofLibrary_93 rfl)) (ok_t_l (ok_inv (run_V (y := 47) (n := 1) (ci := 4) dX11_ofLibrary_94 cz_47 gdG cc_47 ci_47 w_781 cm_47 cs_47 cd_47 cl_47 rfl rfl)))) (ok_t_n (ok_t_l (ok_inv (run_S (y := 209) (n := 1) dX11_ofLibrary_97 cz_209 gdG cc_209 ci_209 w_225 cm_209 cd_209 cl_209))) (ok_t_l (ok_ireturn dX11_ofLibrary_100))))))) (ok_t_n (ok_t_n (ok_t_n (ok_t_n (ok_t_l (ok_aload_n dX11_ofLibrary_101 rfl)) (ok_t_n (ok_t_l (ok_getfield dX11_ofLibrary_102 (ci := 11) (kf := 3) rfl inGX11 (by decide) w_1309)) (ok_t_l (ok_iload_n dX11_ofLibrary_105 rfl)))) (ok_t_n (ok_t_l (ok_inv (run_V (y := 45) (n := 1) (ci := 4) dX11_ofLibrary_106 cz_45 gdG cc_45 ci_45 w_785 cm_45 cs_45 cd_45 cl_45 rfl rfl))) (ok_t_n (ok_t_l (ok_ireturn dX11_ofLibrary_109)) (ok_t_l (ok_aload_n dX11_ofLibrary_110 rfl))))) (ok_t_n (ok_t_n (ok_t_l (ok_getfield dX11_ofLibrary_111 (ci := 11) (kf := 3) rfl inGX11 (by decide) w_1309)) (ok_t_n (ok_t_l (ok_iload_n dX11_ofLibrary_114 rfl)) (ok_t_l (ok_inv (run_V (y := 48) (n := 1) (ci := 4) dX11_ofLibrary_115 cz_48 gdG cc_48 ci_48 w_744 cm_48 cs_48 cd_48 cl_48 rfl rfl))))) (ok_t_n (ok_t_n (ok_t_l (ok_ireturn dX11_ofLibrary_118)) (ok_t_l (ok_aload_n dX11_ofLibrary_119 rfl))) (ok_t_n (ok_t_l (ok_getfield dX11_ofLibrary_120 (ci := 11) (kf := 3) rfl inGX11 (by decide) w_1309)) (ok_t_l (ok_iload_n dX11_ofLibrary_123 rfl)))))) (ok_t_n (ok_t_n (ok_t_n (ok_t_l (ok_inv (run_V (y := 49) (n := 1) (ci := 4) dX11_ofLibrary_124 cz_49 gdG cc_49 ci_49 w_789 cm_49 cs_49 cd_49 cl_49 rfl rfl))) (ok_t_n (ok_t_l (ok_ireturn dX11_ofLibrary_127)) (ok_t_l (ok_aload_n dX11_ofLibrary_128 rfl)))) (ok_t_n (ok_t_l (ok_getfield dX11_ofLibrary_129 (ci := 11) (kf := 3) rfl inGX11 (by decide) w_1309)) (ok_t_n (ok_t_l (ok_iload_n dX11_ofLibrary_132 rfl)) (ok_t_l (ok_inv (run_V (y := 56) (n := 1) (ci := 4) dX11_ofLibrary_133 cz_56 gdG cc_56 ci_56 w_790 cm_56 cs_56 cd_56 cl_56 rfl rfl)))))) (ok_t_n (ok_t_n (ok_t_l (ok_ireturn dX11_ofLibrary_136)) (ok_t_n (ok_t_l (ok_aload_n dX11_ofLibrary_137 rfl)) (ok_t_l (ok_getfield dX11_ofLibrary_138 (ci := 11) (kf := 3) rfl inGX11 (by decide) w_1309)))) (ok_t_n (ok_t_n (ok_t_l (ok_iload_n dX11_ofLibrary_141 rfl)) (ok_t_l (ok_inv (run_V (y := 57) (n := 1) (ci := 4) dX11_ofLibrary_142 cz_57 gdG cc_57 ci_57 w_791 cm_57 cs_57 cd_57 cl_57 rfl rfl)))) (ok_t_n (ok_t_l (ok_ireturn dX11_ofLibrary_145)) (ok_t_l (ok_dup dX11_ofLibrary_149))))))))
theorem dX11_many_0 : decode cX11_many 0 = .ok (.iload_n 1, 1) := by decide +kernel
theorem dX11_many_1 : decode cX11_many 1 = .ok (.tableswitch 192 0 12 #[67, 75, 83, 91, 99, 107, 115, 123, 134, 145, 156, 167, 178], 67) := by decide +kernel
theorem dX11_many_68 : decode cX11_many 68 = .ok (.aload_n 0, 1) := by decide +kernel
theorem dX11_many_69 : decode cX11_many 69 = .ok (.getfield 12, 3) := by decide +kernel
theorem dX11_many_72 : decode cX11_many 72 = .ok (.invokevirtual 352, 3) := by decide +kernel
theorem dX11_many_75 : decode cX11_many 75 = .ok (.ireturn, 1) := by decide +kernel
theorem dX11_many_76 : decode cX11_many 76 = .ok (.aload_n 0, 1) := by decide +kernel
theorem dX11_many_77 : decode cX11_many 77 = .ok (.getfield 19, 3) := by decide +kernel
theorem dX11_many_80 : decode cX11_many 80 = .ok (.invokevirtual 353, 3) := by decide +kernel
theorem dX11_many_83 : decode cX11_many 83 = .ok (.ireturn, 1) := by decide +kernel
theorem dX11_many_84 : decode cX11_many 84 = .ok (.aload_n 0, 1) := by decide +kernel
theorem dX11_many_85 : decode cX11_many 85 = .ok (.getfield 26, 3) := by decide +kernel
theorem dX11_many_88 : decode cX11_many 88 = .ok (.invokevirtual 354, 3) := by decide +kernel
theorem dX11_many_91 : decode cX11_many 91 = .ok (.ireturn, 1) := by decide +kernel
theorem dX11_many_92 : decode cX11_many 92 = .ok (.aload_n 0, 1) := by decide +kernel
theorem dX11_many_93 : decode cX11_many 93 = .ok (.getfield 33, 3) := by decide +kernel
theorem dX11_many_96 : decode cX11_many 96 = .ok (.invokevirtual 277, 3) := by decide +kernel
theorem dX11_many_99 : decode cX11_many 99 = .ok (.ireturn, 1) := by decide +kernel
theorem dX11_many_100 : decode cX11_many 100 = .ok (.aload_n 0, 1) := by decide +kernel
theorem dX11_many_101 : decode cX11_many 101 = .ok (.getfield 33, 3) := by decide +kernel
theorem dX11_many_104 : decode cX11_many 104 = .ok (.invokevirtual 355, 3) := by decide +kernel
theorem dX11_many_107 : decode cX11_many 107 = .ok (.ireturn, 1) := by decide +kernel
theorem dX11_many_108 : decode cX11_many 108 = .ok (.aload_n 0, 1) := by decide +kernel
theorem dX11_many_109 : decode cX11_many 109 = .ok (.getfield 33, 3) := by decide +kernel
theorem dX11_many_112 : decode cX11_many 112 = .ok (.invokevirtual 358, 3) := by decide +kernel
theorem dX11_many_115 : decode cX11_many 115 = .ok (.ireturn, 1) := by decide +kernel
theorem dX11_many_116 : decode cX11_many 116 = .ok (.aload_n 0, 1) := by decide +kernel
theorem dX11_many_117 : decode cX11_many 117 = .ok (.getfield 33, 3) := by decide +kernel
theorem dX11_many_120 : decode cX11_many 120 = .ok (.invokevirtual 361, 3) := by decide +kernel
theorem dX11_many_123 : decode cX11_many 123 = .ok (.ireturn, 1) := by decide +kernel
theorem dX11_many_124 : decode cX11_many 124 = .ok (.aload_n 0, 1) := by decide +kernel
theorem dX11_many_125 : decode cX11_many 125 = .ok (.getfield 56, 3) := by decide +kernel
theorem dX11_many_128 : decode cX11_many 128 = .ok (.getfield 182, 3) := by decide +kernel
theorem dX11_many_131 : decode cX11_many 131 = .ok (.invokevirtual 364, 3) := by decide +kernel
theorem dX11_many_134 : decode cX11_many 134 = .ok (.ireturn, 1) := by decide +kernel
theorem dX11_many_135 : decode cX11_many 135 = .ok (.aload_n 0, 1) := by decide +kernel
theorem dX11_many_136 : decode cX11_many 136 = .ok (.getfield 56, 3) := by decide +kernel
theorem dX11_many_139 : decode cX11_many 139 = .ok (.getfield 218, 3) := by decide +kernel
theorem dX11_many_142 : decode cX11_many 142 = .ok (.invokevirtual 365, 3) := by decide +kernel
theorem dX11_many_145 : decode cX11_many 145 = .ok (.ireturn, 1) := by decide +kernel
theorem dX11_many_146 : decode cX11_many 146 = .ok (.aload_n 0, 1) := by decide +kernel
theorem dX11_many_147 : decode cX11_many 147 = .ok (.getfield 56, 3) := by decide +kernel
theorem dX11_many_150 : decode cX11_many 150 = .ok (.getfield 227, 3) := by decide +kernel
theorem dX11_many_153 : decode cX11_many 153 = .ok (.invokevirtual 269, 3) := by decide +kernel
theorem dX11_many_156 : decode cX11_many 156 = .ok (.ireturn, 1) := by decide +kernel
theorem dX11_many_157 : decode cX11_many 157 = .ok (.aload_n 0, 1) := by decide +kernel
theorem dX11_many_158 : decode cX11_many 158 = .ok (.getfield 56, 3) := by decide +kernel
theorem dX11_many_161 : decode cX11_many 161 = .ok (.getfield 206, 3) := by decide +kernel
theorem dX11_many_164 : decode cX11_many 164 = .ok (.invokevirtual 210, 3) := by decide +kernel
theorem dX11_many_167 : decode cX11_many 167 = .ok (.ireturn, 1) := by decide +kernel
theorem dX11_many_168 : decode cX11_many 168 = .ok (.aload_n 0, 1) := by decide +kernel
theorem dX11_many_169 : decode cX11_many 169 = .ok (.getfield 56, 3) := by decide +kernel
theorem dX11_many_172 : decode cX11_many 172 = .ok (.getfield 227, 3) := by decide +kernel
theorem dX11_many_175 : decode cX11_many 175 = .ok (.invokevirtual 368, 3) := by decide +kernel
theorem dX11_many_178 : decode cX11_many 178 = .ok (.ireturn, 1) := by decide +kernel
theorem dX11_many_179 : decode cX11_many 179 = .ok (.aload_n 0, 1) := by decide +kernel
theorem dX11_many_180 : decode cX11_many 180 = .ok (.getfield 56, 3) := by decide +kernel
theorem dX11_many_183 : decode cX11_many 183 = .ok (.getfield 218, 3) := by decide +kernel
theorem dX11_many_186 : decode cX11_many 186 = .ok (.invokevirtual 371, 3) := by decide +kernel
theorem dX11_many_189 : decode cX11_many 189 = .ok (.invokestatic 155, 3) := by decide +kernel
theorem dX11_many_192 : decode cX11_many 192 = .ok (.ireturn, 1) := by decide +kernel
theorem dX11_many_193 : decode cX11_many 193 = .ok (.new 90, 3) := by decide +kernel
theorem dX11_many_196 : decode cX11_many 196 = .ok (.dup, 1) := by decide +kernel
theorem dX11_many_197 : decode cX11_many 197 = .ok (.ldc_w 373, 3) := by decide +kernel
theorem dX11_many_200 : decode cX11_many 200 = .ok (.invokespecial 94, 3) := by decide +kernel
theorem dX11_many_203 : decode cX11_many 203 = .ok (.athrow, 1) := by decide +kernel
def g_X11_many : Nat → EA := (t_n 125 (t_n 93 (t_n 77 (t_n 69 (t_n 1 (t_l 0 (a_iload 1 1)) (t_n 68 (t_l 1 (a_tsw 0 [68, 76, 84, 92, 100, 108, 116, 124, 135, 146, 157, 168, 179] 193)) (t_l 68 (a_aload 1 0)))) (t_n 75 (t_n 72 (t_l 69 (a_getf 11 0)) (t_l 72 (a_inv true 86 1 (some 6)))) (t_n 76 (t_l 75 a_iret) (t_l 76 (a_aload 1 0))))) (t_n 85 (t_n 83 (t_n 80 (t_l 77 (a_getf 11 1)) (t_l 80 (a_inv true 117 1 (some 8)))) (t_n 84 (t_l 83 a_iret) (t_l 84 (a_aload 1 0)))) (t_n 91 (t_n 88 (t_l 85 (a_getf 11 2)) (t_l 88 (a_inv true 10 1 (some 2)))) (t_n 92 (t_l 91 a_iret) (t_l 92 (a_aload 1 0)))))) (t_n 109 (t_n 101 (t_n 99 (t_n 96 (t_l 93 (a_getf 11 3)) (t_l 96 (a_inv true 41 1 (some 4)))) (t_n 100 (t_l 99 a_iret) (t_l 100 (a_aload 1 0)))) (t_n 107 (t_n 104 (t_l 101 (a_getf 11 3)) (t_l 104 (a_inv true 59 1 (some 4)))) (t_n 108 (t_l 107 a_iret) (t_l 108 (a_aload 1 0))))) (t_n 117 (t_n 115 (t_n 112 (t_l 109 (a_getf 11 3)) (t_l 112 (a_inv true 60 1 (some 4)))) (t_n 116 (t_l 115 a_iret) (t_l 116 (a_aload 1 0)))) (t_n 123 (t_n 120 (t_l 117 (a_getf 11 3)) (t_l 120 (a_inv true 61 1 (some 4)))) (t_n 124 (t_l 123 a_iret) (t_l 124 (a_aload 1 0))))))) (t_n 158 (t_n 142 (t_n 134 (t_n 128 (t_l 125 (a_getf 11 5)) (t_n 131 (t_l 128 (a_getf 5 1)) (t_l 131 (a_inv true 149 1 (some 10))))) (t_n 136 (t_n 135 (t_l 134 a_iret) (t_l 135 (a_aload 1 0))) (t_n 139 (t_l 136 (a_getf 11 5)) (t_l 139 (a_getf 5 3))))) (t_n 150 (t_n 146 (t_n 145 (t_l 142 (a_inv true 107 1 (some 7))) (t_l 145 a_iret)) (t_n 147 (t_l 146 (a_aload 1 0)) (t_l 147 (a_getf 11 5)))) (t_n 156 (t_n 153 (t_l 150 (a_getf 5 4)) (t_l 153 (a_inv true 21 1 (some 3)))) (t_n 157 (t_l 156 a_iret) (t_l 157 (a_aload 1 0)))))) (t_n 178 (t_n 168 (t_n 164 (t_n 161 (t_l 158 (a_getf 11 5)) (t_l 161 (a_getf 5 5))) (t_n 167 (t_l 164 (a_inv true 1 1 (some 0))) (t_l 167 a_iret))) (t_n 172 (t_n 169 (t_l 168 (a_aload 1 0)) (t_l 169 (a_getf 11 5))) (t_n 175 (t_l 172 (a_getf 5 4)) (t_l 175 (a_inv true 27 1 (some 3)))))) (t_n 186 (t_n 180 (t_n 179 (t_l 178 a_iret) (t_l 179 (a_aload 1 0))) (t_n 183 (t_l 180 (a_getf 11 5)) (t_l 183 (a_getf 5 3)))) (t_n 192 (t_n 189 (t_l 186 (a_inv true 108 1 (some 7))) (t_l 189 (a_inv true 209 1 none))) (t_n 196 (t_l 192 a_iret) (t_l 196 a_dup)))))))
set_option maxRecDepth 100000 in
theorem k_X11_many (sc : Nat × (Nat → Int32)) (d : Nat) : ∀ pc, ev_Ok cX11_many 2 [] RX11 lw_g lw_n (lw_q sc) vwCl false (ev_CO mt lw_g lw_n (lw_q sc) vwCl d) pc (g_X11_many pc) := (ok_t_n (ok_t_n (ok_t_n (ok_t_n (ok_t_n (ok_t_l (ok_iload_n dX11_many_0 rfl)) (ok_t_n (ok_t_l (ok_tsw dX11_many_1 rfl rfl rfl)) (ok_t_l (ok_aload_n dX11_many_68 rfl)))) (ok_t_n (ok_t_n (ok_t_l (ok_getfield dX11_many_69 (ci := 11) (kf := 0) rfl inGX11 (by decide) w_1306)) (ok_t_l (ok_inv (run_V (y := 86) (n := 0) (ci := 6) dX11_many_72 cz_86 gdG cc_86 ci_86 w_800 cm_86 cs_86 cd_86 cl_86 rfl rfl)))) (ok_t_n (ok_t_l (ok_ireturn dX11_many_75)) (ok_t_l (ok_aload_n dX11_many_76 rfl))))) (ok_t_n (ok_t_n (ok_t_n (ok_t_l (ok_getfield dX11_many_77 (ci := 11) (kf := 1) rfl inGX11 (by decide) w_1307)) (ok_t_l (ok_inv (run_V (y := 117) (n := 0) (ci := 8) dX11_many_80 cz_117 gdG cc_117 ci_117 w_804 cm_117 cs_117 cd_117 cl_117 rfl rfl)))) (ok_t_n (ok_t_l (ok_ireturn dX11_many_83)) (ok_t_l (ok_aload_n dX11_many_84 rfl)))) (ok_t_n (ok_t_n (ok_t_l (ok_getfield dX11_many_85 (ci := 11) (kf := 2) rfl inGX11 (by decide) w_1308)) (ok_t_l (ok_inv (run_V (y := 10) (n := 0) (ci := 2) dX11_many_88 cz_10 gdG cc_10 ci_10 w_805 cm_10 cs_10 cd_10 cl_10 rfl rfl)))) (ok_t_n (ok_t_l (ok_ireturn dX11_many_91)) (ok_t_l (ok_aload_n dX11_many_92 rfl)))))) (ok_t_n (ok_t_n (ok_t_n (ok_t_n (ok_t_l (ok_getfield dX11_many_93 (ci := 11) (kf := 3) rfl inGX11 (by decide) w_1309)) (ok_t_l (ok_inv (run_V (y := 41) (n := 0) (ci := 4) dX11_many_96 cz_41 gdG cc_41 ci_41 w_649 cm_41 cs_41 cd_41 cl_41 rfl rfl)))) (ok_t_n (ok_t_l (ok_ireturn dX11_many_99)) (ok_t_l (ok_aload_n dX11_many_100 rfl)))) (ok_t_n (ok_t_n (ok_t_l (ok_getfield dX11_many_101 (ci := 11) (kf := 3) rfl inGX11 (by decide) w_1309)) (ok_t_l (ok_inv (run_V (y := 59) (n := 0) (ci := 4) dX11_many_104 cz_59 gdG cc_59 ci_59 w_806 cm_59 cs_59 cd_59 cl_59 rfl rfl)))) (ok_t_n (ok_t_l (ok_ireturn dX11_many_107)) (ok_t_l (ok_aload_n dX11_many_108 rfl))))) (ok_t_n (ok_t_n (ok_t_n (ok_t_l (ok_getfield dX11_many_109 (ci := 11) (kf := 3) rfl inGX11 (by decide) w_1309)) (ok_t_l (ok_inv (run_V (y := 60) (n := 0) (ci := 4) dX11_many_112 cz_60 gdG cc_60 ci_60 w_810 cm_60 cs_60 cd_60 cl_60 rfl rfl)))) (ok_t_n (ok_t_l (ok_ireturn dX11_many_115)) (ok_t_l (ok_aload_n dX11_many_116 rfl)))) (ok_t_n (ok_t_n (ok_t_l (ok_getfield dX11_many_117 (ci := 11) (kf := 3) rfl inGX11 (by decide) w_1309)) (ok_t_l (ok_inv (run_V (y := 61) (n := 0) (ci := 4) dX11_many_120 cz_61 gdG cc_61 ci_61 w_814 cm_61 cs_61 cd_61 cl_61 rfl rfl)))) (ok_t_n (ok_t_l (ok_ireturn dX11_many_123)) (ok_t_l (ok_aload_n dX11_many_124 rfl))))))) (ok_t_n (ok_t_n (ok_t_n (ok_t_n (ok_t_l (ok_getfield dX11_many_125 (ci := 11) (kf := 5) rfl inGX11 (by decide) w_1311)) (ok_t_n (ok_t_l (ok_getfieldN dX11_many_128 (ci := 5) (kf := 1) rfl inGX5 (by decide) (nst_22))) (ok_t_l (ok_inv (run_V (y := 149) (n := 0) (ci := 10) dX11_many_131 cz_149 gdG cc_149 ci_149 w_818 cm_149 cs_149 cd_149 cl_149 rfl rfl))))) (ok_t_n (ok_t_n (ok_t_l (ok_ireturn dX11_many_134)) (ok_t_l (ok_aload_n dX11_many_135 rfl))) (ok_t_n (ok_t_l (ok_getfield dX11_many_136 (ci := 11) (kf := 5) rfl inGX11 (by decide) w_1311)) (ok_t_l (ok_getfieldN dX11_many_139 (ci := 5) (kf := 3) rfl inGX5 (by decide) (nst_25)))))) (ok_t_n (ok_t_n (ok_t_n (ok_t_l (ok_inv (run_V (y := 107) (n := 0) (ci := 7) dX11_many_142 cz_107 gdG cc_107 ci_107 w_819 cm_107 cs_107 cd_107 cl_107 rfl rfl))) (ok_t_l (ok_ireturn dX11_many_145))) (ok_t_n (ok_t_l (ok_aload_n dX11_many_146 rfl)) (ok_t_l (ok_getfield dX11_many_147 (ci := 11) (kf := 5) rfl inGX11 (by decide) w_1311)))) (ok_t_n (ok_t_n (ok_t_l (ok_getfieldN dX11_many_150 (ci := 5) (kf := 4) rfl inGX5 (by decide) (nst_27))) (ok_t_l (ok_inv (run_V (y := 21) (n := 0) (ci := 3) dX11_many_153 cz_21 gdG cc_21 ci_21 w_639 cm_21 cs_21 cd_21 cl_21 rfl rfl)))) (ok_t_n (ok_t_l (ok_ireturn dX11_many_156)) (ok_t_l (ok_aload_n dX11_many_157 rfl)))))) (ok_t_n (ok_t_n (ok_t_n (ok_t_n (ok_t_l (ok_getfield dX11_many_158 (ci := 11) (kf := 5) rfl inGX11 (by decide) w_1311)) (ok_t_l (ok_getfieldN dX11_many_161 (ci := 5) (kf := 5) rfl inGX5 (by decide) (nst_29)))) (ok_t_n (ok_t_l (ok_inv (run_V (y := 1) (n := 0) (ci := 0) dX11_many_164 cz_1 gdG cc_1 ci_1 w_610 cm_1 cs_1 cd_1 cl_1 rfl rfl))) (ok_t_l (ok_ireturn dX11_many_167)))) (ok_t_n (ok_t_n (ok_t_l (ok_aload_n dX11_many_168 rfl)) (ok_t_l (ok_getfield dX11_many_169 (ci := 11) (kf := 5) rfl inGX11 (by decide) w_1311))) (ok_t_n (ok_t_l (ok_getfieldN dX11_many_172 (ci := 5) (kf := 4) rfl inGX5 (by decide) (nst_27))) (ok_t_l (ok_inv (run_V (y := 27) (n := 0) (ci := 3) dX11_many_175 cz_27 gdG cc_27 ci_27 w_823 cm_27 cs_27 cd_27 cl_27 rfl rfl)))))) (ok_t_n (ok_t_n (ok_t_n (ok_t_l (ok_ireturn dX11_many_178)) (ok_t_l (ok_aload_n dX11_many_179 rfl))) (ok_t_n (ok_t_l (ok_getfield dX11_many_180 (ci := 11) (kf := 5) rfl inGX11 (by decide) w_1311)) (ok_t_l (ok_getfieldN dX11_many_183 (ci := 5) (kf := 3) rfl inGX5 (by decide) (nst_25))))) (ok_t_n (ok_t_n (ok_t_l (ok_inv (run_V (y := 108) (n := 0) (ci := 7) dX11_many_186 cz_108 gdG cc_108 ci_108 w_828 cm_108 cs_108 cd_108 cl_108 rfl rfl))) (ok_t_l (ok_inv (run_S (y := 209) (n := 1) dX11_many_189 cz_209 gdG cc_209 ci_209 w_225 cm_209 cd_209 cl_209)))) (ok_t_n (ok_t_l (ok_ireturn dX11_many_192)) (ok_t_l (ok_dup dX11_many_196))))))))
theorem dX11_sizeWith_0 : decode cX11_sizeWith 0 = .ok (.iload_n 1, 1) := by decide +kernel
theorem dX11_sizeWith_1 : decode cX11_sizeWith 1 = .ok (.invokestatic 193, 3) := by decide +kernel
theorem dX11_sizeWith_4 : decode cX11_sizeWith 4 = .ok (.ifCond .ne 14, 3) := by decide +kernel
theorem dX11_sizeWith_7 : decode cX11_sizeWith 7 = .ok (.new 90, 3) := by decide +kernel
theorem dX11_sizeWith_10 : decode cX11_sizeWith 10 = .ok (.dup, 1) := by decide +kernel
theorem dX11_sizeWith_11 : decode cX11_sizeWith 11 = .ok (.ldc_w 378, 3) := by decide +kernel
theorem dX11_sizeWith_14 : decode cX11_sizeWith 14 = .ok (.invokespecial 94, 3) := by decide +kernel
theorem dX11_sizeWith_17 : decode cX11_sizeWith 17 = .ok (.athrow, 1) := by decide +kernel
theorem dX11_sizeWith_18 : decode cX11_sizeWith 18 = .ok (.aload_n 0, 1) := by decide +kernel
theorem dX11_sizeWith_19 : decode cX11_sizeWith 19 = .ok (.getfield 56, 3) := by decide +kernel
theorem dX11_sizeWith_22 : decode cX11_sizeWith 22 = .ok (.invokevirtual 285, 3) := by decide +kernel
theorem dX11_sizeWith_25 : decode cX11_sizeWith 25 = .ok (.ifCond .ne 14, 3) := by decide +kernel
theorem dX11_sizeWith_28 : decode cX11_sizeWith 28 = .ok (.new 67, 3) := by decide +kernel
theorem dX11_sizeWith_31 : decode cX11_sizeWith 31 = .ok (.dup, 1) := by decide +kernel
theorem dX11_sizeWith_32 : decode cX11_sizeWith 32 = .ok (.ldc_w 380, 3) := by decide +kernel
theorem dX11_sizeWith_35 : decode cX11_sizeWith 35 = .ok (.invokespecial 71, 3) := by decide +kernel
theorem dX11_sizeWith_38 : decode cX11_sizeWith 38 = .ok (.athrow, 1) := by decide +kernel
theorem dX11_sizeWith_39 : decode cX11_sizeWith 39 = .ok (.aload_n 0, 1) := by decide +kernel
theorem dX11_sizeWith_40 : decode cX11_sizeWith 40 = .ok (.getfield 60, 3) := by decide +kernel
theorem dX11_sizeWith_43 : decode cX11_sizeWith 43 = .ok (.aload_n 0, 1) := by decide +kernel
theorem dX11_sizeWith_44 : decode cX11_sizeWith 44 = .ok (.getfield 56, 3) := by decide +kernel
theorem dX11_sizeWith_47 : decode cX11_sizeWith 47 = .ok (.invokevirtual 382, 3) := by decide +kernel
theorem dX11_sizeWith_50 : decode cX11_sizeWith 50 = .ok (.aload_n 0, 1) := by decide +kernel
theorem dX11_sizeWith_51 : decode cX11_sizeWith 51 = .ok (.getfield 56, 3) := by decide +kernel
theorem dX11_sizeWith_54 : decode cX11_sizeWith 54 = .ok (.invokevirtual 288, 3) := by decide +kernel
theorem dX11_sizeWith_57 : decode cX11_sizeWith 57 = .ok (.iload_n 1, 1) := by decide +kernel
theorem dX11_sizeWith_58 : decode cX11_sizeWith 58 = .ok (.aload_n 0, 1) := by decide +kernel
theorem dX11_sizeWith_59 : decode cX11_sizeWith 59 = .ok (.getfield 48, 3) := by decide +kernel
theorem dX11_sizeWith_62 : decode cX11_sizeWith 62 = .ok (.iconst (-1), 1) := by decide +kernel
theorem dX11_sizeWith_63 : decode cX11_sizeWith 63 = .ok (.invokevirtual 198, 3) := by decide +kernel
theorem dX11_sizeWith_66 : decode cX11_sizeWith 66 = .ok (.aload_n 0, 1) := by decide +kernel
theorem dX11_sizeWith_67 : decode cX11_sizeWith 67 = .ok (.getfield 60, 3) := by decide +kernel
theorem dX11_sizeWith_70 : decode cX11_sizeWith 70 = .ok (.getfield 227, 3) := by decide +kernel
theorem dX11_sizeWith_73 : decode cX11_sizeWith 73 = .ok (.invokevirtual 269, 3) := by decide +kernel
theorem dX11_sizeWith_76 : decode cX11_sizeWith 76 = .ok (.ireturn, 1) := by decide +kernel
def g_X11_sizeWith : Nat → EA := (t_n 47 (t_n 22 (t_n 10 (t_n 1 (t_l 0 (a_iload 1 1)) (t_n 4 (t_l 1 (a_inv true 195 1 none)) (t_l 4 (a_if 18 (fun x => !decide (x = 0)))))) (t_n 18 (t_l 10 a_dup) (t_n 19 (t_l 18 (a_aload 1 0)) (t_l 19 (a_getf 11 5))))) (t_n 39 (t_n 25 (t_l 22 (a_inv true 77 1 (some 5))) (t_n 31 (t_l 25 (a_if 39 (fun x => !decide (x = 0)))) (t_l 31 a_dup))) (t_n 43 (t_n 40 (t_l 39 (a_aload 1 0)) (t_l 40 (a_getf 11 6))) (t_n 44 (t_l 43 (a_aload 1 0)) (t_l 44 (a_getf 11 5)))))) (t_n 62 (t_n 54 (t_n 50 (t_l 47 (a_inv true 79 1 (some 5))) (t_n 51 (t_l 50 (a_aload 1 0)) (t_l 51 (a_getf 11 5)))) (t_n 58 (t_n 57 (t_l 54 (a_inv true 78 1 (some 5))) (t_l 57 (a_iload 1 1))) (t_n 59 (t_l 58 (a_aload 1 0)) (t_l 59 (a_getf 11 8))))) (t_n 67 (t_n 63 (t_l 62 (a_push 1 (.int (-1)))) (t_n 66 (t_l 63 (a_inv true 80 6 (some 5))) (t_l 66 (a_aload 1 0)))) (t_n 73 (t_n 70 (t_l 67 (a_getf 11 6)) (t_l 70 (a_getf 5 4))) (t_n 76 (t_l 73 (a_inv true 21 1 (some 3))) (t_l 76 a_iret))))))
set_option maxRecDepth 100000 in
theorem k_X11_sizeWith (sc : Nat × (Nat → Int32)) (d : Nat) : ∀ pc, ev_Ok cX11_sizeWith 2 [] RX11 lw_g lw_n (lw_q sc) vwCl false (ev_CO mt lw_g lw_n (lw_q sc) vwCl d) pc (g_X11_sizeWith pc) := (ok_t_n (ok_t_n (ok_t_n (ok_t_n (ok_t_l (ok_iload_n dX11_sizeWith_0 rfl)) (ok_t_n (ok_t_l (ok_inv (run_S (y := 195) (n := 1) dX11_sizeWith_1 cz_195 gdG cc_195 ci_195 w_253 cm_195 cd_195 cl_195))) (ok_t_l (ok_if_ne dX11_sizeWith_4 rfl)))) (ok_t_n (ok_t_l (ok_dup dX11_sizeWith_10)) (ok_t_n (ok_t_l (ok_aload_n dX11_sizeWith_18 rfl)) (ok_t_l (ok_getfield dX11_sizeWith_19 (ci := 11) (kf := 5) rfl inGX11 (by decide) w_1311))))) (ok_t_n (ok_t_n (ok_t_l (ok_inv (run_V (y := 77) (n := 0) (ci := 5) dX11_sizeWith_22 cz_77 gdG cc_77 ci_77 w_659 cm_77 cs_77 cd_77 cl_77 rfl rfl))) (ok_t_n (ok_t_l (ok_if_ne dX11_sizeWith_25 rfl)) (ok_t_l (ok_dup dX11_sizeWith_31)))) (ok_t_n (ok_t_n (ok_t_l (ok_aload_n dX11_sizeWith_39 rfl)) (ok_t_l (ok_getfield dX11_sizeWith_40 (ci := 11) (kf := 6) rfl inGX11 (by decide) w_1312))) (ok_t_n (ok_t_l (ok_aload_n dX11_sizeWith_43 rfl)) (ok_t_l (ok_getfield dX11_sizeWith_44 (ci := 11) (kf := 5) rfl inGX11 (by decide) w_1311)))))) (ok_t_n (ok_t_n (ok_t_n (ok_t_l (ok_inv (run_V (y := 79) (n := 0) (ci := 5) dX11_sizeWith_47 cz_79 gdG cc_79 ci_79 w_941 cm_79 cs_79 cd_79 cl_79 rfl rfl))) (ok_t_n (ok_t_l (ok_aload_n dX11_sizeWith_50 rfl)) (ok_t_l (ok_getfield dX11_sizeWith_51 (ci := 11) (kf := 5) rfl inGX11 (by decide) w_1311)))) (ok_t_n (ok_t_n (ok_t_l (ok_inv (run_V (y := 78) (n := 0) (ci := 5) dX11_sizeWith_54 cz_78 gdG cc_78 ci_78 w_663 cm_78 cs_78 cd_78 cl_78 rfl rfl))) (ok_t_l (ok_iload_n dX11_sizeWith_57 rfl))) (ok_t_n (ok_t_l (ok_aload_n dX11_sizeWith_58 rfl)) (ok_t_l (ok_getfield dX11_sizeWith_59 (ci := 11) (kf := 8) rfl inGX11 (by decide) w_1314))))) (ok_t_n (ok_t_n (ok_t_l (ok_iconst dX11_sizeWith_62 rfl)) (ok_t_n (ok_t_l (ok_inv (run_V (y := 80) (n := 5) (ci := 5) dX11_sizeWith_63 cz_80 gdG cc_80 ci_80 w_262 cm_80 cs_80 cd_80 cl_80 rfl rfl))) (ok_t_l (ok_aload_n dX11_sizeWith_66 rfl)))) (ok_t_n (ok_t_n (ok_t_l (ok_getfield dX11_sizeWith_67 (ci := 11) (kf := 6) rfl inGX11 (by decide) w_1312)) (ok_t_l (ok_getfieldN dX11_sizeWith_70 (ci := 5) (kf := 4) rfl inGX5 (by decide) (nst_27)))) (ok_t_n (ok_t_l (ok_inv (run_V (y := 21) (n := 0) (ci := 3) dX11_sizeWith_73 cz_21 gdG cc_21 ci_21 w_639 cm_21 cs_21 cd_21 cl_21 rfl rfl))) (ok_t_l (ok_ireturn dX11_sizeWith_76)))))))
theorem dX11_faultsWithout_0 : decode cX11_faultsWithout 0 = .ok (.aload_n 0, 1) := by decide +kernel
theorem dX11_faultsWithout_1 : decode cX11_faultsWithout 1 = .ok (.getfield 12, 3) := by decide +kernel
theorem dX11_faultsWithout_4 : decode cX11_faultsWithout 4 = .ok (.iload_n 1, 1) := by decide +kernel
theorem dX11_faultsWithout_5 : decode cX11_faultsWithout 5 = .ok (.invokevirtual 78, 3) := by decide +kernel
theorem dX11_faultsWithout_8 : decode cX11_faultsWithout 8 = .ok (.ifCond .ne 13, 3) := by decide +kernel
theorem dX11_faultsWithout_11 : decode cX11_faultsWithout 11 = .ok (.new 82, 3) := by decide +kernel
theorem dX11_faultsWithout_14 : decode cX11_faultsWithout 14 = .ok (.dup, 1) := by decide +kernel
theorem dX11_faultsWithout_15 : decode cX11_faultsWithout 15 = .ok (.ldc 84, 2) := by decide +kernel
theorem dX11_faultsWithout_17 : decode cX11_faultsWithout 17 = .ok (.invokespecial 86, 3) := by decide +kernel
theorem dX11_faultsWithout_20 : decode cX11_faultsWithout 20 = .ok (.athrow, 1) := by decide +kernel
theorem dX11_faultsWithout_21 : decode cX11_faultsWithout 21 = .ok (.aload_n 0, 1) := by decide +kernel
theorem dX11_faultsWithout_22 : decode cX11_faultsWithout 22 = .ok (.getfield 56, 3) := by decide +kernel
theorem dX11_faultsWithout_25 : decode cX11_faultsWithout 25 = .ok (.invokevirtual 285, 3) := by decide +kernel
theorem dX11_faultsWithout_28 : decode cX11_faultsWithout 28 = .ok (.ifCond .ne 14, 3) := by decide +kernel
theorem dX11_faultsWithout_31 : decode cX11_faultsWithout 31 = .ok (.new 67, 3) := by decide +kernel
theorem dX11_faultsWithout_34 : decode cX11_faultsWithout 34 = .ok (.dup, 1) := by decide +kernel
theorem dX11_faultsWithout_35 : decode cX11_faultsWithout 35 = .ok (.ldc_w 380, 3) := by decide +kernel
theorem dX11_faultsWithout_38 : decode cX11_faultsWithout 38 = .ok (.invokespecial 71, 3) := by decide +kernel
theorem dX11_faultsWithout_41 : decode cX11_faultsWithout 41 = .ok (.athrow, 1) := by decide +kernel
theorem dX11_faultsWithout_42 : decode cX11_faultsWithout 42 = .ok (.aload_n 0, 1) := by decide +kernel
theorem dX11_faultsWithout_43 : decode cX11_faultsWithout 43 = .ok (.getfield 60, 3) := by decide +kernel
theorem dX11_faultsWithout_46 : decode cX11_faultsWithout 46 = .ok (.aload_n 0, 1) := by decide +kernel
theorem dX11_faultsWithout_47 : decode cX11_faultsWithout 47 = .ok (.getfield 56, 3) := by decide +kernel
theorem dX11_faultsWithout_50 : decode cX11_faultsWithout 50 = .ok (.invokevirtual 382, 3) := by decide +kernel
theorem dX11_faultsWithout_53 : decode cX11_faultsWithout 53 = .ok (.aload_n 0, 1) := by decide +kernel
theorem dX11_faultsWithout_54 : decode cX11_faultsWithout 54 = .ok (.getfield 56, 3) := by decide +kernel
theorem dX11_faultsWithout_57 : decode cX11_faultsWithout 57 = .ok (.invokevirtual 288, 3) := by decide +kernel
theorem dX11_faultsWithout_60 : decode cX11_faultsWithout 60 = .ok (.aload_n 0, 1) := by decide +kernel
theorem dX11_faultsWithout_61 : decode cX11_faultsWithout 61 = .ok (.getfield 44, 3) := by decide +kernel
theorem dX11_faultsWithout_64 : decode cX11_faultsWithout 64 = .ok (.aload_n 0, 1) := by decide +kernel
theorem dX11_faultsWithout_65 : decode cX11_faultsWithout 65 = .ok (.getfield 48, 3) := by decide +kernel
theorem dX11_faultsWithout_68 : decode cX11_faultsWithout 68 = .ok (.iload_n 1, 1) := by decide +kernel
theorem dX11_faultsWithout_69 : decode cX11_faultsWithout 69 = .ok (.invokevirtual 198, 3) := by decide +kernel
theorem dX11_faultsWithout_72 : decode cX11_faultsWithout 72 = .ok (.aload_n 0, 1) := by decide +kernel
theorem dX11_faultsWithout_73 : decode cX11_faultsWithout 73 = .ok (.getfield 60, 3) := by decide +kernel
theorem dX11_faultsWithout_76 : decode cX11_faultsWithout 76 = .ok (.getfield 206, 3) := by decide +kernel
theorem dX11_faultsWithout_79 : decode cX11_faultsWithout 79 = .ok (.invokevirtual 210, 3) := by decide +kernel
theorem dX11_faultsWithout_82 : decode cX11_faultsWithout 82 = .ok (.ireturn, 1) := by decide +kernel
def g_X11_faultsWithout : Nat → EA := (t_n 50 (t_n 22 (t_n 5 (t_n 1 (t_l 0 (a_aload 1 0)) (t_n 4 (t_l 1 (a_getf 11 0)) (t_l 4 (a_iload 1 1)))) (t_n 14 (t_n 8 (t_l 5 (a_inv true 88 2 (some 6))) (t_l 8 (a_if 21 (fun x => !decide (x = 0))))) (t_n 21 (t_l 14 a_dup) (t_l 21 (a_aload 1 0))))) (t_n 42 (t_n 28 (t_n 25 (t_l 22 (a_getf 11 5)) (t_l 25 (a_inv true 77 1 (some 5)))) (t_n 34 (t_l 28 (a_if 42 (fun x => !decide (x = 0)))) (t_l 34 a_dup))) (t_n 46 (t_n 43 (t_l 42 (a_aload 1 0)) (t_l 43 (a_getf 11 6))) (t_n 47 (t_l 46 (a_aload 1 0)) (t_l 47 (a_getf 11 5)))))) (t_n 65 (t_n 57 (t_n 53 (t_l 50 (a_inv true 79 1 (some 5))) (t_n 54 (t_l 53 (a_aload 1 0)) (t_l 54 (a_getf 11 5)))) (t_n 61 (t_n 60 (t_l 57 (a_inv true 78 1 (some 5))) (t_l 60 (a_aload 1 0))) (t_n 64 (t_l 61 (a_getf 11 7)) (t_l 64 (a_aload 1 0))))) (t_n 73 (t_n 69 (t_n 68 (t_l 65 (a_getf 11 8)) (t_l 68 (a_iload 1 1))) (t_n 72 (t_l 69 (a_inv true 80 6 (some 5))) (t_l 72 (a_aload 1 0)))) (t_n 79 (t_n 76 (t_l 73 (a_getf 11 6)) (t_l 76 (a_getf 5 5))) (t_n 82 (t_l 79 (a_inv true 1 1 (some 0))) (t_l 82 a_iret))))))
set_option maxRecDepth 100000 in
theorem k_X11_faultsWithout (sc : Nat × (Nat → Int32)) (d : Nat) : ∀ pc, ev_Ok cX11_faultsWithout 2 [] RX11 lw_g lw_n (lw_q sc) vwCl false (ev_CO mt lw_g lw_n (lw_q sc) vwCl d) pc (g_X11_faultsWithout pc) := (ok_t_n (ok_t_n (ok_t_n (ok_t_n (ok_t_l (ok_aload_n dX11_faultsWithout_0 rfl)) (ok_t_n (ok_t_l (ok_getfield dX11_faultsWithout_1 (ci := 11) (kf := 0) rfl inGX11 (by decide) w_1306)) (ok_t_l (ok_iload_n dX11_faultsWithout_4 rfl)))) (ok_t_n (ok_t_n (ok_t_l (ok_inv (run_V (y := 88) (n := 1) (ci := 6) dX11_faultsWithout_5 cz_88 gdG cc_88 ci_88 w_146 cm_88 cs_88 cd_88 cl_88 rfl rfl))) (ok_t_l (ok_if_ne dX11_faultsWithout_8 rfl))) (ok_t_n (ok_t_l (ok_dup dX11_faultsWithout_14)) (ok_t_l (ok_aload_n dX11_faultsWithout_21 rfl))))) (ok_t_n (ok_t_n (ok_t_n (ok_t_l (ok_getfield dX11_faultsWithout_22 (ci := 11) (kf := 5) rfl inGX11 (by decide) w_1311)) (ok_t_l (ok_inv (run_V (y := 77) (n := 0) (ci := 5) dX11_faultsWithout_25 cz_77 gdG cc_77 ci_77 w_659 cm_77 cs_77 cd_77 cl_77 rfl rfl)))) (ok_t_n (ok_t_l (ok_if_ne dX11_faultsWithout_28 rfl)) (ok_t_l (ok_dup dX11_faultsWithout_34)))) (ok_t_n (ok_t_n (ok_t_l (ok_aload_n dX11_faultsWithout_42 rfl)) (ok_t_l (ok_getfield dX11_faultsWithout_43 (ci := 11) (kf := 6) rfl inGX11 (by decide) w_1312))) (ok_t_n (ok_t_l (ok_aload_n dX11_faultsWithout_46 rfl)) (ok_t_l (ok_getfield dX11_faultsWithout_47 (ci := 11) (kf := 5) rfl inGX11 (by decide) w_1311)))))) (ok_t_n (ok_t_n (ok_t_n (ok_t_l (ok_inv (run_V (y := 79) (n := 0) (ci := 5) dX11_faultsWithout_50 cz_79 gdG cc_79 ci_79 w_941 cm_79 cs_79 cd_79 cl_79 rfl rfl))) (ok_t_n (ok_t_l (ok_aload_n dX11_faultsWithout_53 rfl)) (ok_t_l (ok_getfield dX11_faultsWithout_54 (ci := 11) (kf := 5) rfl inGX11 (by decide) w_1311)))) (ok_t_n (ok_t_n (ok_t_l (ok_inv (run_V (y := 78) (n := 0) (ci := 5) dX11_faultsWithout_57 cz_78 gdG cc_78 ci_78 w_663 cm_78 cs_78 cd_78 cl_78 rfl rfl))) (ok_t_l (ok_aload_n dX11_faultsWithout_60 rfl))) (ok_t_n (ok_t_l (ok_getfield dX11_faultsWithout_61 (ci := 11) (kf := 7) rfl inGX11 (by decide) w_1313)) (ok_t_l (ok_aload_n dX11_faultsWithout_64 rfl))))) (ok_t_n (ok_t_n (ok_t_n (ok_t_l (ok_getfield dX11_faultsWithout_65 (ci := 11) (kf := 8) rfl inGX11 (by decide) w_1314)) (ok_t_l (ok_iload_n dX11_faultsWithout_68 rfl))) (ok_t_n (ok_t_l (ok_inv (run_V (y := 80) (n := 5) (ci := 5) dX11_faultsWithout_69 cz_80 gdG cc_80 ci_80 w_262 cm_80 cs_80 cd_80 cl_80 rfl rfl))) (ok_t_l (ok_aload_n dX11_faultsWithout_72 rfl)))) (ok_t_n (ok_t_n (ok_t_l (ok_getfield dX11_faultsWithout_73 (ci := 11) (kf := 6) rfl inGX11 (by decide) w_1312)) (ok_t_l (ok_getfieldN dX11_faultsWithout_76 (ci := 5) (kf := 5) rfl inGX5 (by decide) (nst_29)))) (ok_t_n (ok_t_l (ok_inv (run_V (y := 1) (n := 0) (ci := 0) dX11_faultsWithout_79 cz_1 gdG cc_1 ci_1 w_610 cm_1 cs_1 cd_1 cl_1 rfl rfl))) (ok_t_l (ok_ireturn dX11_faultsWithout_82)))))))
theorem dX11_goes_0 : decode cX11_goes 0 = .ok (.aload_n 0, 1) := by decide +kernel
theorem dX11_goes_1 : decode cX11_goes 1 = .ok (.getfield 33, 3) := by decide +kernel
theorem dX11_goes_4 : decode cX11_goes 4 = .ok (.iload_n 1, 1) := by decide +kernel
theorem dX11_goes_5 : decode cX11_goes 5 = .ok (.invokevirtual 296, 3) := by decide +kernel
theorem dX11_goes_8 : decode cX11_goes 8 = .ok (.ifCond .ne 14, 3) := by decide +kernel
theorem dX11_goes_11 : decode cX11_goes 11 = .ok (.new 82, 3) := by decide +kernel
theorem dX11_goes_14 : decode cX11_goes 14 = .ok (.dup, 1) := by decide +kernel
theorem dX11_goes_15 : decode cX11_goes 15 = .ok (.ldc_w 297, 3) := by decide +kernel
theorem dX11_goes_18 : decode cX11_goes 18 = .ok (.invokespecial 86, 3) := by decide +kernel
theorem dX11_goes_21 : decode cX11_goes 21 = .ok (.athrow, 1) := by decide +kernel
theorem dX11_goes_22 : decode cX11_goes 22 = .ok (.aload_n 0, 1) := by decide +kernel
theorem dX11_goes_23 : decode cX11_goes 23 = .ok (.getfield 33, 3) := by decide +kernel
theorem dX11_goes_26 : decode cX11_goes 26 = .ok (.iload_n 1, 1) := by decide +kernel
theorem dX11_goes_27 : decode cX11_goes 27 = .ok (.invokevirtual 303, 3) := by decide +kernel
theorem dX11_goes_30 : decode cX11_goes 30 = .ok (.ifCond .ne 7, 3) := by decide +kernel
theorem dX11_goes_33 : decode cX11_goes 33 = .ok (.iconst 0, 1) := by decide +kernel
theorem dX11_goes_34 : decode cX11_goes 34 = .ok (.goto 11, 3) := by decide +kernel
theorem dX11_goes_37 : decode cX11_goes 37 = .ok (.aload_n 0, 1) := by decide +kernel
theorem dX11_goes_38 : decode cX11_goes 38 = .ok (.getfield 33, 3) := by decide +kernel
theorem dX11_goes_41 : decode cX11_goes 41 = .ok (.iload_n 1, 1) := by decide +kernel
theorem dX11_goes_42 : decode cX11_goes 42 = .ok (.invokevirtual 385, 3) := by decide +kernel
theorem dX11_goes_45 : decode cX11_goes 45 = .ok (.ireturn, 1) := by decide +kernel
def g_X11_goes : Nat → EA := (t_n 27 (t_n 8 (t_n 4 (t_n 1 (t_l 0 (a_aload 1 0)) (t_l 1 (a_getf 11 3))) (t_n 5 (t_l 4 (a_iload 1 1)) (t_l 5 (a_inv true 43 2 (some 4))))) (t_n 22 (t_n 14 (t_l 8 (a_if 22 (fun x => !decide (x = 0)))) (t_l 14 a_dup)) (t_n 23 (t_l 22 (a_aload 1 0)) (t_n 26 (t_l 23 (a_getf 11 3)) (t_l 26 (a_iload 1 1)))))) (t_n 37 (t_n 33 (t_n 30 (t_l 27 (a_inv true 48 2 (some 4))) (t_l 30 (a_if 37 (fun x => !decide (x = 0))))) (t_n 34 (t_l 33 (a_push 1 (.int 0))) (t_l 34 (a_goto 45)))) (t_n 41 (t_n 38 (t_l 37 (a_aload 1 0)) (t_l 38 (a_getf 11 3))) (t_n 42 (t_l 41 (a_iload 1 1)) (t_n 45 (t_l 42 (a_inv true 72 2 (some 4))) (t_l 45 a_iret))))))
set_option maxRecDepth 100000 in
theorem k_X11_goes (sc : Nat × (Nat → Int32)) (d : Nat) : ∀ pc, ev_Ok cX11_goes 2 [] RX11 lw_g lw_n (lw_q sc) vwCl false (ev_CO mt lw_g lw_n (lw_q sc) vwCl d) pc (g_X11_goes pc) := (ok_t_n (ok_t_n (ok_t_n (ok_t_n (ok_t_l (ok_aload_n dX11_goes_0 rfl)) (ok_t_l (ok_getfield dX11_goes_1 (ci := 11) (kf := 3) rfl inGX11 (by decide) w_1309))) (ok_t_n (ok_t_l (ok_iload_n dX11_goes_4 rfl)) (ok_t_l (ok_inv (run_V (y := 43) (n := 1) (ci := 4) dX11_goes_5 cz_43 gdG cc_43 ci_43 w_687 cm_43 cs_43 cd_43 cl_43 rfl rfl))))) (ok_t_n (ok_t_n (ok_t_l (ok_if_ne dX11_goes_8 rfl)) (ok_t_l (ok_dup dX11_goes_14))) (ok_t_n (ok_t_l (ok_aload_n dX11_goes_22 rfl)) (ok_t_n (ok_t_l (ok_getfield dX11_goes_23 (ci := 11) (kf := 3) rfl inGX11 (by decide) w_1309)) (ok_t_l (ok_iload_n dX11_goes_26 rfl)))))) (ok_t_n (ok_t_n (ok_t_n (ok_t_l (ok_inv (run_V (y := 48) (n := 1) (ci := 4) dX11_goes_27 cz_48 gdG cc_48 ci_48 w_744 cm_48 cs_48 cd_48 cl_48 rfl rfl))) (ok_t_l (ok_if_ne dX11_goes_30 rfl))) (ok_t_n (ok_t_l (ok_iconst dX11_goes_33 rfl)) (ok_t_l (ok_goto dX11_goes_34 rfl)))) (ok_t_n (ok_t_n (ok_t_l (ok_aload_n dX11_goes_37 rfl)) (ok_t_l (ok_getfield dX11_goes_38 (ci := 11) (kf := 3) rfl inGX11 (by decide) w_1309))) (ok_t_n (ok_t_l (ok_iload_n dX11_goes_41 rfl)) (ok_t_n (ok_t_l (ok_inv (run_V (y := 72) (n := 1) (ci := 4) dX11_goes_42 cz_72 gdG cc_72 ci_72 w_834 cm_72 cs_72 cd_72 cl_72 rfl rfl))) (ok_t_l (ok_ireturn dX11_goes_45)))))))
theorem dX11_wouldBind_0 : decode cX11_wouldBind 0 = .ok (.aload_n 0, 1) := by decide +kernel
theorem dX11_wouldBind_1 : decode cX11_wouldBind 1 = .ok (.getfield 33, 3) := by decide +kernel
theorem dX11_wouldBind_4 : decode cX11_wouldBind 4 = .ok (.iload_n 1, 1) := by decide +kernel
theorem dX11_wouldBind_5 : decode cX11_wouldBind 5 = .ok (.invokevirtual 296, 3) := by decide +kernel
theorem dX11_wouldBind_8 : decode cX11_wouldBind 8 = .ok (.ifCond .ne 14, 3) := by decide +kernel
theorem dX11_wouldBind_11 : decode cX11_wouldBind 11 = .ok (.new 82, 3) := by decide +kernel
theorem dX11_wouldBind_14 : decode cX11_wouldBind 14 = .ok (.dup, 1) := by decide +kernel
theorem dX11_wouldBind_15 : decode cX11_wouldBind 15 = .ok (.ldc_w 297, 3) := by decide +kernel
theorem dX11_wouldBind_18 : decode cX11_wouldBind 18 = .ok (.invokespecial 86, 3) := by decide +kernel
theorem dX11_wouldBind_21 : decode cX11_wouldBind 21 = .ok (.athrow, 1) := by decide +kernel
theorem dX11_wouldBind_22 : decode cX11_wouldBind 22 = .ok (.iload_n 2, 1) := by decide +kernel
theorem dX11_wouldBind_23 : decode cX11_wouldBind 23 = .ok (.invokestatic 115, 3) := by decide +kernel
theorem dX11_wouldBind_26 : decode cX11_wouldBind 26 = .ok (.ifCond .ne 13, 3) := by decide +kernel
theorem dX11_wouldBind_29 : decode cX11_wouldBind 29 = .ok (.new 90, 3) := by decide +kernel
theorem dX11_wouldBind_32 : decode cX11_wouldBind 32 = .ok (.dup, 1) := by decide +kernel
theorem dX11_wouldBind_33 : decode cX11_wouldBind 33 = .ok (.ldc 123, 2) := by decide +kernel
theorem dX11_wouldBind_35 : decode cX11_wouldBind 35 = .ok (.invokespecial 94, 3) := by decide +kernel
theorem dX11_wouldBind_38 : decode cX11_wouldBind 38 = .ok (.athrow, 1) := by decide +kernel
theorem dX11_wouldBind_39 : decode cX11_wouldBind 39 = .ok (.aload_n 0, 1) := by decide +kernel
theorem dX11_wouldBind_40 : decode cX11_wouldBind 40 = .ok (.getfield 33, 3) := by decide +kernel
theorem dX11_wouldBind_43 : decode cX11_wouldBind 43 = .ok (.iload_n 1, 1) := by decide +kernel
theorem dX11_wouldBind_44 : decode cX11_wouldBind 44 = .ok (.invokevirtual 311, 3) := by decide +kernel
theorem dX11_wouldBind_47 : decode cX11_wouldBind 47 = .ok (.ifCond .eq 15, 3) := by decide +kernel
theorem dX11_wouldBind_50 : decode cX11_wouldBind 50 = .ok (.aload_n 0, 1) := by decide +kernel
theorem dX11_wouldBind_51 : decode cX11_wouldBind 51 = .ok (.getfield 33, 3) := by decide +kernel
theorem dX11_wouldBind_54 : decode cX11_wouldBind 54 = .ok (.iload_n 1, 1) := by decide +kernel
theorem dX11_wouldBind_55 : decode cX11_wouldBind 55 = .ok (.iload_n 2, 1) := by decide +kernel
theorem dX11_wouldBind_56 : decode cX11_wouldBind 56 = .ok (.invokevirtual 314, 3) := by decide +kernel
theorem dX11_wouldBind_59 : decode cX11_wouldBind 59 = .ok (.ifCond .ne 5, 3) := by decide +kernel
theorem dX11_wouldBind_62 : decode cX11_wouldBind 62 = .ok (.iconst (-1), 1) := by decide +kernel
theorem dX11_wouldBind_63 : decode cX11_wouldBind 63 = .ok (.ireturn, 1) := by decide +kernel
theorem dX11_wouldBind_64 : decode cX11_wouldBind 64 = .ok (.aload_n 0, 1) := by decide +kernel
theorem dX11_wouldBind_65 : decode cX11_wouldBind 65 = .ok (.getfield 33, 3) := by decide +kernel
theorem dX11_wouldBind_68 : decode cX11_wouldBind 68 = .ok (.iload_n 1, 1) := by decide +kernel
theorem dX11_wouldBind_69 : decode cX11_wouldBind 69 = .ok (.iload_n 2, 1) := by decide +kernel
theorem dX11_wouldBind_70 : decode cX11_wouldBind 70 = .ok (.invokevirtual 388, 3) := by decide +kernel
theorem dX11_wouldBind_73 : decode cX11_wouldBind 73 = .ok (.ireturn, 1) := by decide +kernel
def g_X11_wouldBind : Nat → EA := (t_n 47 (t_n 23 (t_n 5 (t_n 1 (t_l 0 (a_aload 1 0)) (t_n 4 (t_l 1 (a_getf 11 3)) (t_l 4 (a_iload 1 1)))) (t_n 14 (t_n 8 (t_l 5 (a_inv true 43 2 (some 4))) (t_l 8 (a_if 22 (fun x => !decide (x = 0))))) (t_n 22 (t_l 14 a_dup) (t_l 22 (a_iload 1 2))))) (t_n 39 (t_n 26 (t_l 23 (a_inv true 193 1 none)) (t_n 32 (t_l 26 (a_if 39 (fun x => !decide (x = 0)))) (t_l 32 a_dup))) (t_n 43 (t_n 40 (t_l 39 (a_aload 1 0)) (t_l 40 (a_getf 11 3))) (t_n 44 (t_l 43 (a_iload 1 1)) (t_l 44 (a_inv true 50 2 (some 4))))))) (t_n 62 (t_n 54 (t_n 50 (t_l 47 (a_if 62 (fun x => decide (x = 0)))) (t_n 51 (t_l 50 (a_aload 1 0)) (t_l 51 (a_getf 11 3)))) (t_n 56 (t_n 55 (t_l 54 (a_iload 1 1)) (t_l 55 (a_iload 1 2))) (t_n 59 (t_l 56 (a_inv true 52 3 (some 4))) (t_l 59 (a_if 64 (fun x => !decide (x = 0))))))) (t_n 68 (t_n 64 (t_n 63 (t_l 62 (a_push 1 (.int (-1)))) (t_l 63 a_iret)) (t_n 65 (t_l 64 (a_aload 1 0)) (t_l 65 (a_getf 11 3)))) (t_n 70 (t_n 69 (t_l 68 (a_iload 1 1)) (t_l 69 (a_iload 1 2))) (t_n 73 (t_l 70 (a_inv true 75 3 (some 4))) (t_l 73 a_iret))))))
set_option maxRecDepth 100000 in
theorem k_X11_wouldBind (sc : Nat × (Nat → Int32)) (d : Nat) : ∀ pc, ev_Ok cX11_wouldBind 3 [] RX11 lw_g lw_n (lw_q sc) vwCl false (ev_CO mt lw_g lw_n (lw_q sc) vwCl d) pc (g_X11_wouldBind pc) := (ok_t_n (ok_t_n (ok_t_n (ok_t_n (ok_t_l (ok_aload_n dX11_wouldBind_0 rfl)) (ok_t_n (ok_t_l (ok_getfield dX11_wouldBind_1 (ci := 11) (kf := 3) rfl inGX11 (by decide) w_1309)) (ok_t_l (ok_iload_n dX11_wouldBind_4 rfl)))) (ok_t_n (ok_t_n (ok_t_l (ok_inv (run_V (y := 43) (n := 1) (ci := 4) dX11_wouldBind_5 cz_43 gdG cc_43 ci_43 w_687 cm_43 cs_43 cd_43 cl_43 rfl rfl))) (ok_t_l (ok_if_ne dX11_wouldBind_8 rfl))) (ok_t_n (ok_t_l (ok_dup dX11_wouldBind_14)) (ok_t_l (ok_iload_n dX11_wouldBind_22 rfl))))) (ok_t_n (ok_t_n (ok_t_l (ok_inv (run_S (y := 193) (n := 1) dX11_wouldBind_23 cz_193 gdG cc_193 ci_193 w_199 cm_193 cd_193 cl_193))) (ok_t_n (ok_t_l (ok_if_ne dX11_wouldBind_26 rfl)) (ok_t_l (ok_dup dX11_wouldBind_32)))) (ok_t_n (ok_t_n (ok_t_l (ok_aload_n dX11_wouldBind_39 rfl)) (ok_t_l (ok_getfield dX11_wouldBind_40 (ci := 11) (kf := 3) rfl inGX11 (by decide) w_1309))) (ok_t_n (ok_t_l (ok_iload_n dX11_wouldBind_43 rfl)) (ok_t_l (ok_inv (run_V (y := 50) (n := 1) (ci := 4) dX11_wouldBind_44 cz_50 gdG cc_50 ci_50 w_930 cm_50 cs_50 cd_50 cl_50 rfl rfl))))))) (ok_t_n (ok_t_n (ok_t_n (ok_t_l (ok_if_eq dX11_wouldBind_47 rfl)) (ok_t_n (ok_t_l (ok_aload_n dX11_wouldBind_50 rfl)) (ok_t_l (ok_getfield dX11_wouldBind_51 (ci := 11) (kf := 3) rfl inGX11 (by decide) w_1309)))) (ok_t_n (ok_t_n (ok_t_l (ok_iload_n dX11_wouldBind_54 rfl)) (ok_t_l (ok_iload_n dX11_wouldBind_55 rfl))) (ok_t_n (ok_t_l (ok_inv (run_V (y := 52) (n := 2) (ci := 4) dX11_wouldBind_56 cz_52 gdG cc_52 ci_52 w_911 cm_52 cs_52 cd_52 cl_52 rfl rfl))) (ok_t_l (ok_if_ne dX11_wouldBind_59 rfl))))) (ok_t_n (ok_t_n (ok_t_n (ok_t_l (ok_iconst dX11_wouldBind_62 rfl)) (ok_t_l (ok_ireturn dX11_wouldBind_63))) (ok_t_n (ok_t_l (ok_aload_n dX11_wouldBind_64 rfl)) (ok_t_l (ok_getfield dX11_wouldBind_65 (ci := 11) (kf := 3) rfl inGX11 (by decide) w_1309)))) (ok_t_n (ok_t_n (ok_t_l (ok_iload_n dX11_wouldBind_68 rfl)) (ok_t_l (ok_iload_n dX11_wouldBind_69 rfl))) (ok_t_n (ok_t_l (ok_inv (run_V (y := 75) (n := 2) (ci := 4) dX11_wouldBind_70 cz_75 gdG cc_75 ci_75 w_931 cm_75 cs_75 cd_75 cl_75 rfl rfl))) (ok_t_l (ok_ireturn dX11_wouldBind_73)))))))
theorem dX11_digest_0 : decode cX11_digest 0 = .ok (.ldc2_w 391, 3) := by decide +kernel
theorem dX11_digest_3 : decode cX11_digest 3 = .ok (.lstore_n 1, 1) := by decide +kernel
theorem dX11_digest_4 : decode cX11_digest 4 = .ok (.iconst 0, 1) := by decide +kernel
theorem dX11_digest_5 : decode cX11_digest 5 = .ok (.istore_n 3, 1) := by decide +kernel
theorem dX11_digest_6 : decode cX11_digest 6 = .ok (.iload_n 3, 1) := by decide +kernel
theorem dX11_digest_7 : decode cX11_digest 7 = .ok (.bipush 12, 2) := by decide +kernel
theorem dX11_digest_9 : decode cX11_digest 9 = .ok (.if_icmp .gt 20, 3) := by decide +kernel
theorem dX11_digest_12 : decode cX11_digest 12 = .ok (.lload_n 1, 1) := by decide +kernel
theorem dX11_digest_13 : decode cX11_digest 13 = .ok (.aload_n 0, 1) := by decide +kernel
theorem dX11_digest_14 : decode cX11_digest 14 = .ok (.iload_n 3, 1) := by decide +kernel
theorem dX11_digest_15 : decode cX11_digest 15 = .ok (.invokevirtual 393, 3) := by decide +kernel
theorem dX11_digest_18 : decode cX11_digest 18 = .ok (.i2l, 1) := by decide +kernel
theorem dX11_digest_19 : decode cX11_digest 19 = .ok (.invokestatic 396, 3) := by decide +kernel
theorem dX11_digest_22 : decode cX11_digest 22 = .ok (.lstore_n 1, 1) := by decide +kernel
theorem dX11_digest_23 : decode cX11_digest 23 = .ok (.iinc 3 1, 3) := by decide +kernel
theorem dX11_digest_26 : decode cX11_digest 26 = .ok (.goto (-20), 3) := by decide +kernel
theorem dX11_digest_29 : decode cX11_digest 29 = .ok (.aload_n 0, 1) := by decide +kernel
theorem dX11_digest_30 : decode cX11_digest 30 = .ok (.lload_n 1, 1) := by decide +kernel
theorem dX11_digest_31 : decode cX11_digest 31 = .ok (.invokevirtual 400, 3) := by decide +kernel
theorem dX11_digest_34 : decode cX11_digest 34 = .ok (.lstore_n 1, 1) := by decide +kernel
theorem dX11_digest_35 : decode cX11_digest 35 = .ok (.aload_n 0, 1) := by decide +kernel
theorem dX11_digest_36 : decode cX11_digest 36 = .ok (.lload_n 1, 1) := by decide +kernel
theorem dX11_digest_37 : decode cX11_digest 37 = .ok (.invokevirtual 404, 3) := by decide +kernel
theorem dX11_digest_40 : decode cX11_digest 40 = .ok (.lstore_n 1, 1) := by decide +kernel
theorem dX11_digest_41 : decode cX11_digest 41 = .ok (.aload_n 0, 1) := by decide +kernel
theorem dX11_digest_42 : decode cX11_digest 42 = .ok (.lload_n 1, 1) := by decide +kernel
theorem dX11_digest_43 : decode cX11_digest 43 = .ok (.invokevirtual 407, 3) := by decide +kernel
theorem dX11_digest_46 : decode cX11_digest 46 = .ok (.lstore_n 1, 1) := by decide +kernel
theorem dX11_digest_47 : decode cX11_digest 47 = .ok (.aload_n 0, 1) := by decide +kernel
theorem dX11_digest_48 : decode cX11_digest 48 = .ok (.lload_n 1, 1) := by decide +kernel
theorem dX11_digest_49 : decode cX11_digest 49 = .ok (.invokevirtual 410, 3) := by decide +kernel
theorem dX11_digest_52 : decode cX11_digest 52 = .ok (.lstore_n 1, 1) := by decide +kernel
theorem dX11_digest_53 : decode cX11_digest 53 = .ok (.iconst 0, 1) := by decide +kernel
theorem dX11_digest_54 : decode cX11_digest 54 = .ok (.istore_n 3, 1) := by decide +kernel
theorem dX11_digest_55 : decode cX11_digest 55 = .ok (.iload_n 3, 1) := by decide +kernel
theorem dX11_digest_56 : decode cX11_digest 56 = .ok (.aload_n 0, 1) := by decide +kernel
theorem dX11_digest_57 : decode cX11_digest 57 = .ok (.getfield 56, 3) := by decide +kernel
theorem dX11_digest_60 : decode cX11_digest 60 = .ok (.getfield 227, 3) := by decide +kernel
theorem dX11_digest_63 : decode cX11_digest 63 = .ok (.invokevirtual 269, 3) := by decide +kernel
theorem dX11_digest_66 : decode cX11_digest 66 = .ok (.if_icmp .ge 20, 3) := by decide +kernel
theorem dX11_digest_69 : decode cX11_digest 69 = .ok (.lload_n 1, 1) := by decide +kernel
theorem dX11_digest_70 : decode cX11_digest 70 = .ok (.aload_n 0, 1) := by decide +kernel
theorem dX11_digest_71 : decode cX11_digest 71 = .ok (.iload_n 3, 1) := by decide +kernel
theorem dX11_digest_72 : decode cX11_digest 72 = .ok (.invokevirtual 413, 3) := by decide +kernel
theorem dX11_digest_75 : decode cX11_digest 75 = .ok (.i2l, 1) := by decide +kernel
theorem dX11_digest_76 : decode cX11_digest 76 = .ok (.invokestatic 396, 3) := by decide +kernel
theorem dX11_digest_79 : decode cX11_digest 79 = .ok (.lstore_n 1, 1) := by decide +kernel
theorem dX11_digest_80 : decode cX11_digest 80 = .ok (.iinc 3 1, 3) := by decide +kernel
theorem dX11_digest_83 : decode cX11_digest 83 = .ok (.goto (-28), 3) := by decide +kernel
theorem dX11_digest_86 : decode cX11_digest 86 = .ok (.iconst 0, 1) := by decide +kernel
theorem dX11_digest_87 : decode cX11_digest 87 = .ok (.istore_n 3, 1) := by decide +kernel
theorem dX11_digest_88 : decode cX11_digest 88 = .ok (.iload_n 3, 1) := by decide +kernel
theorem dX11_digest_89 : decode cX11_digest 89 = .ok (.aload_n 0, 1) := by decide +kernel
theorem dX11_digest_90 : decode cX11_digest 90 = .ok (.getfield 33, 3) := by decide +kernel
theorem dX11_digest_93 : decode cX11_digest 93 = .ok (.invokevirtual 277, 3) := by decide +kernel
theorem dX11_digest_96 : decode cX11_digest 96 = .ok (.if_icmp .ge 16, 3) := by decide +kernel
theorem dX11_digest_99 : decode cX11_digest 99 = .ok (.aload_n 0, 1) := by decide +kernel
theorem dX11_digest_100 : decode cX11_digest 100 = .ok (.lload_n 1, 1) := by decide +kernel
theorem dX11_digest_101 : decode cX11_digest 101 = .ok (.iload_n 3, 1) := by decide +kernel
theorem dX11_digest_102 : decode cX11_digest 102 = .ok (.invokevirtual 416, 3) := by decide +kernel
theorem dX11_digest_105 : decode cX11_digest 105 = .ok (.lstore_n 1, 1) := by decide +kernel
theorem dX11_digest_106 : decode cX11_digest 106 = .ok (.iinc 3 1, 3) := by decide +kernel
theorem dX11_digest_109 : decode cX11_digest 109 = .ok (.goto (-21), 3) := by decide +kernel
theorem dX11_digest_112 : decode cX11_digest 112 = .ok (.aload_n 0, 1) := by decide +kernel
theorem dX11_digest_113 : decode cX11_digest 113 = .ok (.getfield 56, 3) := by decide +kernel
theorem dX11_digest_116 : decode cX11_digest 116 = .ok (.invokevirtual 285, 3) := by decide +kernel
theorem dX11_digest_119 : decode cX11_digest 119 = .ok (.ifCond .ne 5, 3) := by decide +kernel
theorem dX11_digest_122 : decode cX11_digest 122 = .ok (.lload_n 1, 1) := by decide +kernel
theorem dX11_digest_123 : decode cX11_digest 123 = .ok (.lreturn, 1) := by decide +kernel
theorem dX11_digest_124 : decode cX11_digest 124 = .ok (.lload_n 1, 1) := by decide +kernel
theorem dX11_digest_125 : decode cX11_digest 125 = .ok (.aload_n 0, 1) := by decide +kernel
theorem dX11_digest_126 : decode cX11_digest 126 = .ok (.bipush 10, 2) := by decide +kernel
theorem dX11_digest_128 : decode cX11_digest 128 = .ok (.invokevirtual 420, 3) := by decide +kernel
theorem dX11_digest_131 : decode cX11_digest 131 = .ok (.i2l, 1) := by decide +kernel
theorem dX11_digest_132 : decode cX11_digest 132 = .ok (.invokestatic 396, 3) := by decide +kernel
theorem dX11_digest_135 : decode cX11_digest 135 = .ok (.lstore_n 1, 1) := by decide +kernel
theorem dX11_digest_136 : decode cX11_digest 136 = .ok (.iconst 0, 1) := by decide +kernel
theorem dX11_digest_137 : decode cX11_digest 137 = .ok (.istore_n 3, 1) := by decide +kernel
theorem dX11_digest_138 : decode cX11_digest 138 = .ok (.iload_n 3, 1) := by decide +kernel
theorem dX11_digest_139 : decode cX11_digest 139 = .ok (.aload_n 0, 1) := by decide +kernel
theorem dX11_digest_140 : decode cX11_digest 140 = .ok (.getfield 12, 3) := by decide +kernel
theorem dX11_digest_143 : decode cX11_digest 143 = .ok (.invokevirtual 352, 3) := by decide +kernel
theorem dX11_digest_146 : decode cX11_digest 146 = .ok (.if_icmp .ge 20, 3) := by decide +kernel
theorem dX11_digest_149 : decode cX11_digest 149 = .ok (.lload_n 1, 1) := by decide +kernel
theorem dX11_digest_150 : decode cX11_digest 150 = .ok (.aload_n 0, 1) := by decide +kernel
theorem dX11_digest_151 : decode cX11_digest 151 = .ok (.iload_n 3, 1) := by decide +kernel
theorem dX11_digest_152 : decode cX11_digest 152 = .ok (.invokevirtual 423, 3) := by decide +kernel
theorem dX11_digest_155 : decode cX11_digest 155 = .ok (.i2l, 1) := by decide +kernel
theorem dX11_digest_156 : decode cX11_digest 156 = .ok (.invokestatic 396, 3) := by decide +kernel
theorem dX11_digest_159 : decode cX11_digest 159 = .ok (.lstore_n 1, 1) := by decide +kernel
theorem dX11_digest_160 : decode cX11_digest 160 = .ok (.iinc 3 1, 3) := by decide +kernel
theorem dX11_digest_163 : decode cX11_digest 163 = .ok (.goto (-25), 3) := by decide +kernel
theorem dX11_digest_166 : decode cX11_digest 166 = .ok (.lload_n 1, 1) := by decide +kernel
theorem dX11_digest_167 : decode cX11_digest 167 = .ok (.lreturn, 1) := by decide +kernel
def g_X11_digest : Nat → EA := (t_n 80 (t_n 40 (t_n 18 (t_n 7 (t_n 4 (t_n 3 (t_l 0 (a_push 3 (.long 58133))) (t_l 3 (a_lstore 4 1 1))) (t_n 5 (t_l 4 (a_push 1 (.int 0))) (t_n 6 (t_l 5 (a_istore 4 1 3)) (t_l 6 (a_iload 1 3))))) (t_n 13 (t_n 9 (t_l 7 (a_push 2 (.int 12))) (t_n 12 (t_l 9 (a_ic 29 (fun x y => decide (y < x)))) (t_l 12 (a_lload 1 1)))) (t_n 14 (t_l 13 (a_aload 1 0)) (t_n 15 (t_l 14 (a_iload 1 3)) (t_l 15 (a_inv true 180 2 (some 11))))))) (t_n 30 (t_n 23 (t_n 19 (t_l 18 (a_i (fun x => .long x.toInt64))) (t_n 22 (t_l 19 (a_inv true 191 2 none)) (t_l 22 (a_lstore 4 1 1)))) (t_n 26 (t_l 23 (a_iinc 4 3 1)) (t_n 29 (t_l 26 (a_goto 6)) (t_l 29 (a_aload 1 0))))) (t_n 35 (t_n 31 (t_l 30 (a_lload 1 1)) (t_n 34 (t_l 31 (a_inv true 186 2 (some 11))) (t_l 34 (a_lstore 4 1 1)))) (t_n 36 (t_l 35 (a_aload 1 0)) (t_n 37 (t_l 36 (a_lload 1 1)) (t_l 37 (a_inv true 187 2 (some 11)))))))) (t_n 56 (t_n 48 (t_n 43 (t_n 41 (t_l 40 (a_lstore 4 1 1)) (t_n 42 (t_l 41 (a_aload 1 0)) (t_l 42 (a_lload 1 1)))) (t_n 46 (t_l 43 (a_inv true 188 2 (some 11))) (t_n 47 (t_l 46 (a_lstore 4 1 1)) (t_l 47 (a_aload 1 0))))) (t_n 53 (t_n 49 (t_l 48 (a_lload 1 1)) (t_n 52 (t_l 49 (a_inv true 189 2 (some 11))) (t_l 52 (a_lstore 4 1 1)))) (t_n 54 (t_l 53 (a_push 1 (.int 0))) (t_n 55 (t_l 54 (a_istore 4 1 3)) (t_l 55 (a_iload 1 3)))))) (t_n 70 (t_n 63 (t_n 57 (t_l 56 (a_aload 1 0)) (t_n 60 (t_l 57 (a_getf 11 5)) (t_l 60 (a_getf 5 4)))) (t_n 66 (t_l 63 (a_inv true 21 1 (some 3))) (t_n 69 (t_l 66 (a_ic 86 (fun x y => decide (y ≤ x)))) (t_l 69 (a_lload 1 1))))) (t_n 75 (t_n 71 (t_l 70 (a_aload 1 0)) (t_n 72 (t_l 71 (a_iload 1 3)) (t_l 72 (a_inv true 174 2 (some 11))))) (t_n 76 (t_l 75 (a_i (fun x => .long x.toInt64))) (t_n 79 (t_l 76 (a_inv true 191 2 none)) (t_l 79 (a_lstore 4 1 1)))))))) (t_n 125 (t_n 101 (t_n 89 (t_n 86 (t_n 83 (t_l 80 (a_iinc 4 3 1)) (t_l 83 (a_goto 55))) (t_n 87 (t_l 86 (a_push 1 (.int 0))) (t_n 88 (t_l 87 (a_istore 4 1 3)) (t_l 88 (a_iload 1 3))))) (t_n 96 (t_n 90 (t_l 89 (a_aload 1 0)) (t_n 93 (t_l 90 (a_getf 11 3)) (t_l 93 (a_inv true 41 1 (some 4))))) (t_n 99 (t_l 96 (a_ic 112 (fun x y => decide (y ≤ x)))) (t_n 100 (t_l 99 (a_aload 1 0)) (t_l 100 (a_lload 1 1)))))) (t_n 113 (t_n 106 (t_n 102 (t_l 101 (a_iload 1 3)) (t_n 105 (t_l 102 (a_inv true 190 3 (some 11))) (t_l 105 (a_lstore 4 1 1)))) (t_n 109 (t_l 106 (a_iinc 4 3 1)) (t_n 112 (t_l 109 (a_goto 88)) (t_l 112 (a_aload 1 0))))) (t_n 122 (t_n 116 (t_l 113 (a_getf 11 5)) (t_n 119 (t_l 116 (a_inv true 77 1 (some 5))) (t_l 119 (a_if 124 (fun x => !decide (x = 0)))))) (t_n 123 (t_l 122 (a_lload 1 1)) (t_n 124 (t_l 123 a_lret) (t_l 124 (a_lload 1 1))))))) (t_n 146 (t_n 136 (t_n 131 (t_n 126 (t_l 125 (a_aload 1 0)) (t_n 128 (t_l 126 (a_push 2 (.int 10))) (t_l 128 (a_inv true 181 2 (some 11))))) (t_n 132 (t_l 131 (a_i (fun x => .long x.toInt64))) (t_n 135 (t_l 132 (a_inv true 191 2 none)) (t_l 135 (a_lstore 4 1 1))))) (t_n 139 (t_n 137 (t_l 136 (a_push 1 (.int 0))) (t_n 138 (t_l 137 (a_istore 4 1 3)) (t_l 138 (a_iload 1 3)))) (t_n 140 (t_l 139 (a_aload 1 0)) (t_n 143 (t_l 140 (a_getf 11 0)) (t_l 143 (a_inv true 86 1 (some 6))))))) (t_n 156 (t_n 151 (t_n 149 (t_l 146 (a_ic 166 (fun x y => decide (y ≤ x)))) (t_n 150 (t_l 149 (a_lload 1 1)) (t_l 150 (a_aload 1 0)))) (t_n 152 (t_l 151 (a_iload 1 3)) (t_n 155 (t_l 152 (a_inv true 182 2 (some 11))) (t_l 155 (a_i (fun x => .long x.toInt64)))))) (t_n 163 (t_n 159 (t_l 156 (a_inv true 191 2 none)) (t_n 160 (t_l 159 (a_lstore 4 1 1)) (t_l 160 (a_iinc 4 3 1)))) (t_n 166 (t_l 163 (a_goto 138)) (t_n 167 (t_l 166 (a_lload 1 1)) (t_l 167 a_lret))))))))
set_option maxRecDepth 100000 in
theorem k_X11_digest (sc : Nat × (Nat → Int32)) (d : Nat) : ∀ pc, ev_Ok cX11_digest 4 [] RX11 lw_g lw_n (lw_q sc) vwCl false (ev_CO mt lw_g lw_n (lw_q sc) vwCl d) pc (g_X11_digest pc) := (ok_t_n (ok_t_n (ok_t_n (ok_t_n (ok_t_n (ok_t_n (ok_t_l (ok_ldc2 dX11_digest_0 w_839)) (ok_t_l (ok_lstore_n dX11_digest_3 rfl))) (ok_t_n (ok_t_l (ok_iconst dX11_digest_4 rfl)) (ok_t_n (ok_t_l (ok_istore_n dX11_digest_5 rfl)) (ok_t_l (ok_iload_n dX11_digest_6 rfl))))) (ok_t_n (ok_t_n (ok_t_l (ok_bipush dX11_digest_7 rfl)) (ok_t_n (ok_t_l (ok_icmp_gt dX11_digest_9 rfl)) (ok_t_l (ok_lload_n dX11_digest_12 rfl)))) (ok_t_n (ok_t_l (ok_aload_n dX11_digest_13 rfl)) (ok_t_n (ok_t_l (ok_iload_n dX11_digest_14 rfl)) (ok_t_l (ok_inv (run_V (y := 180) (n := 1) (ci := 11) dX11_digest_15 cz_180 gdG cc_180 ci_180 w_840 cm_180 cs_180 cd_180 cl_180 rfl rfl))))))) (ok_t_n (ok_t_n (ok_t_n (ok_t_l (ok_i2l dX11_digest_18)) (ok_t_n (ok_t_l (ok_inv (run_S (y := 191) (n := 2) dX11_digest_19 cz_191 gdG cc_191 ci_191 w_841 cm_191 cd_191 cl_191))) (ok_t_l (ok_lstore_n dX11_digest_22 rfl)))) (ok_t_n (ok_t_l (ok_iinc dX11_digest_23 rfl)) (ok_t_n (ok_t_l (ok_goto dX11_digest_26 rfl)) (ok_t_l (ok_aload_n dX11_digest_29 rfl))))) (ok_t_n (ok_t_n (ok_t_l (ok_lload_n dX11_digest_30 rfl)) (ok_t_n (ok_t_l (ok_inv (run_V (y := 186) (n := 1) (ci := 11) dX11_digest_31 cz_186 gdG cc_186 ci_186 w_845 cm_186 cs_186 cd_186 cl_186 rfl rfl))) (ok_t_l (ok_lstore_n dX11_digest_34 rfl)))) (ok_t_n (ok_t_l (ok_aload_n dX11_digest_35 rfl)) (ok_t_n (ok_t_l (ok_lload_n dX11_digest_36 rfl)) (ok_t_l (ok_inv (run_V (y := 187) (n := 1) (ci := 11) dX11_digest_37 cz_187 gdG cc_187 ci_187 w_851 cm_187 cs_187 cd_187 cl_187 rfl rfl)))))))) (ok_t_n (ok_t_n (ok_t_n (ok_t_n (ok_t_l (ok_lstore_n dX11_digest_40 rfl)) (ok_t_n (ok_t_l (ok_aload_n dX11_digest_41 rfl)) (ok_t_l (ok_lload_n dX11_digest_42 rfl)))) (ok_t_n (ok_t_l (ok_inv (run_V (y := 188) (n := 1) (ci := 11) dX11_digest_43 cz_188 gdG cc_188 ci_188 w_856 cm_188 cs_188 cd_188 cl_188 rfl rfl))) (ok_t_n (ok_t_l (ok_lstore_n dX11_digest_46 rfl)) (ok_t_l (ok_aload_n dX11_digest_47 rfl))))) (ok_t_n (ok_t_n (ok_t_l (ok_lload_n dX11_digest_48 rfl)) (ok_t_n (ok_t_l (ok_inv (run_V (y := 189) (n := 1) (ci := 11) dX11_digest_49 cz_189 gdG cc_189 ci_189 w_876 cm_189 cs_189 cd_189 cl_189 rfl rfl))) (ok_t_l (ok_lstore_n dX11_digest_52 rfl)))) (ok_t_n (ok_t_l (ok_iconst dX11_digest_53 rfl)) (ok_t_n (ok_t_l (ok_istore_n dX11_digest_54 rfl)) (ok_t_l (ok_iload_n dX11_digest_55 rfl)))))) (ok_t_n (ok_t_n (ok_t_n (ok_t_l (ok_aload_n dX11_digest_56 rfl)) (ok_t_n (ok_t_l (ok_getfield dX11_digest_57 (ci := 11) (kf := 5) rfl inGX11 (by decide) w_1311)) (ok_t_l (ok_getfieldN dX11_digest_60 (ci := 5) (kf := 4) rfl inGX5 (by decide) (nst_27))))) (ok_t_n (ok_t_l (ok_inv (run_V (y := 21) (n := 0) (ci := 3) dX11_digest_63 cz_21 gdG cc_21 ci_21 w_639 cm_21 cs_21 cd_21 cl_21 rfl rfl))) (ok_t_n (ok_t_l (ok_icmp_ge dX11_digest_66 rfl)) (ok_t_l (ok_lload_n dX11_digest_69 rfl))))) (ok_t_n (ok_t_n (ok_t_l (ok_aload_n dX11_digest_70 rfl)) (ok_t_n (ok_t_l (ok_iload_n dX11_digest_71 rfl)) (ok_t_l (ok_inv (run_V (y := 174) (n := 1) (ci := 11) dX11_digest_72 cz_174 gdG cc_174 ci_174 w_890 cm_174 cs_174 cd_174 cl_174 rfl rfl))))) (ok_t_n (ok_t_l (ok_i2l dX11_digest_75)) (ok_t_n (ok_t_l (ok_inv (run_S (y := 191) (n := 2) dX11_digest_76 cz_191 gdG cc_191 ci_191 w_841 cm_191 cd_191 cl_191))) (ok_t_l (ok_lstore_n dX11_digest_79 rfl)))))))) (ok_t_n (ok_t_n (ok_t_n (ok_t_n (ok_t_n (ok_t_l (ok_iinc dX11_digest_80 rfl)) (ok_t_l (ok_goto dX11_digest_83 rfl))) (ok_t_n (ok_t_l (ok_iconst dX11_digest_86 rfl)) (ok_t_n (ok_t_l (ok_istore_n dX11_digest_87 rfl)) (ok_t_l (ok_iload_n dX11_digest_88 rfl))))) (ok_t_n (ok_t_n (ok_t_l (ok_aload_n dX11_digest_89 rfl)) (ok_t_n (ok_t_l (ok_getfield dX11_digest_90 (ci := 11) (kf := 3) rfl inGX11 (by decide) w_1309)) (ok_t_l (ok_inv (run_V (y := 41) (n := 0) (ci := 4) dX11_digest_93 cz_41 gdG cc_41 ci_41 w_649 cm_41 cs_41 cd_41 cl_41 rfl rfl))))) (ok_t_n (ok_t_l (ok_icmp_ge dX11_digest_96 rfl)) (ok_t_n (ok_t_l (ok_aload_n dX11_digest_99 rfl)) (ok_t_l (ok_lload_n dX11_digest_100 rfl)))))) (ok_t_n (ok_t_n (ok_t_n (ok_t_l (ok_iload_n dX11_digest_101 rfl)) (ok_t_n (ok_t_l (ok_inv (run_V (y := 190) (n := 2) (ci := 11) dX11_digest_102 cz_190 gdG cc_190 ci_190 w_891 cm_190 cs_190 cd_190 cl_190 rfl rfl))) (ok_t_l (ok_lstore_n dX11_digest_105 rfl)))) (ok_t_n (ok_t_l (ok_iinc dX11_digest_106 rfl)) (ok_t_n (ok_t_l (ok_goto dX11_digest_109 rfl)) (ok_t_l (ok_aload_n dX11_digest_112 rfl))))) (ok_t_n (ok_t_n (ok_t_l (ok_getfield dX11_digest_113 (ci := 11) (kf := 5) rfl inGX11 (by decide) w_1311)) (ok_t_n (ok_t_l (ok_inv (run_V (y := 77) (n := 0) (ci := 5) dX11_digest_116 cz_77 gdG cc_77 ci_77 w_659 cm_77 cs_77 cd_77 cl_77 rfl rfl))) (ok_t_l (ok_if_ne dX11_digest_119 rfl)))) (ok_t_n (ok_t_l (ok_lload_n dX11_digest_122 rfl)) (ok_t_n (ok_t_l (ok_lreturn dX11_digest_123)) (ok_t_l (ok_lload_n dX11_digest_124 rfl))))))) (ok_t_n (ok_t_n (ok_t_n (ok_t_n (ok_t_l (ok_aload_n dX11_digest_125 rfl)) (ok_t_n (ok_t_l (ok_bipush dX11_digest_126 rfl)) (ok_t_l (ok_inv (run_V (y := 181) (n := 1) (ci := 11) dX11_digest_128 cz_181 gdG cc_181 ci_181 w_935 cm_181 cs_181 cd_181 cl_181 rfl rfl))))) (ok_t_n (ok_t_l (ok_i2l dX11_digest_131)) (ok_t_n (ok_t_l (ok_inv (run_S (y := 191) (n := 2) dX11_digest_132 cz_191 gdG cc_191 ci_191 w_841 cm_191 cd_191 cl_191))) (ok_t_l (ok_lstore_n dX11_digest_135 rfl))))) (ok_t_n (ok_t_n (ok_t_l (ok_iconst dX11_digest_136 rfl)) (ok_t_n (ok_t_l (ok_istore_n dX11_digest_137 rfl)) (ok_t_l (ok_iload_n dX11_digest_138 rfl)))) (ok_t_n (ok_t_l (ok_aload_n dX11_digest_139 rfl)) (ok_t_n (ok_t_l (ok_getfield dX11_digest_140 (ci := 11) (kf := 0) rfl inGX11 (by decide) w_1306)) (ok_t_l (ok_inv (run_V (y := 86) (n := 0) (ci := 6) dX11_digest_143 cz_86 gdG cc_86 ci_86 w_800 cm_86 cs_86 cd_86 cl_86 rfl rfl))))))) (ok_t_n (ok_t_n (ok_t_n (ok_t_l (ok_icmp_ge dX11_digest_146 rfl)) (ok_t_n (ok_t_l (ok_lload_n dX11_digest_149 rfl)) (ok_t_l (ok_aload_n dX11_digest_150 rfl)))) (ok_t_n (ok_t_l (ok_iload_n dX11_digest_151 rfl)) (ok_t_n (ok_t_l (ok_inv (run_V (y := 182) (n := 1) (ci := 11) dX11_digest_152 cz_182 gdG cc_182 ci_182 w_945 cm_182 cs_182 cd_182 cl_182 rfl rfl))) (ok_t_l (ok_i2l dX11_digest_155))))) (ok_t_n (ok_t_n (ok_t_l (ok_inv (run_S (y := 191) (n := 2) dX11_digest_156 cz_191 gdG cc_191 ci_191 w_841 cm_191 cd_191 cl_191))) (ok_t_n (ok_t_l (ok_lstore_n dX11_digest_159 rfl)) (ok_t_l (ok_iinc dX11_digest_160 rfl)))) (ok_t_n (ok_t_l (ok_goto dX11_digest_163 rfl)) (ok_t_n (ok_t_l (ok_lload_n dX11_digest_166 rfl)) (ok_t_l (ok_lreturn dX11_digest_167)))))))))
theorem dX11_mixObjects_0 : decode cX11_mixObjects 0 = .ok (.lload_n 1, 1) := by decide +kernel
theorem dX11_mixObjects_1 : decode cX11_mixObjects 1 = .ok (.lstore_n 3, 1) := by decide +kernel
theorem dX11_mixObjects_2 : decode cX11_mixObjects 2 = .ok (.iconst 0, 1) := by decide +kernel
theorem dX11_mixObjects_3 : decode cX11_mixObjects 3 = .ok (.istore 5, 2) := by decide +kernel
theorem dX11_mixObjects_5 : decode cX11_mixObjects 5 = .ok (.iload 5, 2) := by decide +kernel
theorem dX11_mixObjects_7 : decode cX11_mixObjects 7 = .ok (.aload_n 0, 1) := by decide +kernel
theorem dX11_mixObjects_8 : decode cX11_mixObjects 8 = .ok (.getfield 12, 3) := by decide +kernel
theorem dX11_mixObjects_11 : decode cX11_mixObjects 11 = .ok (.invokevirtual 352, 3) := by decide +kernel
theorem dX11_mixObjects_14 : decode cX11_mixObjects 14 = .ok (.if_icmp .ge 38, 3) := by decide +kernel
theorem dX11_mixObjects_17 : decode cX11_mixObjects 17 = .ok (.iconst 0, 1) := by decide +kernel
theorem dX11_mixObjects_18 : decode cX11_mixObjects 18 = .ok (.istore 6, 2) := by decide +kernel
theorem dX11_mixObjects_20 : decode cX11_mixObjects 20 = .ok (.iload 6, 2) := by decide +kernel
theorem dX11_mixObjects_22 : decode cX11_mixObjects 22 = .ok (.iconst 3, 1) := by decide +kernel
theorem dX11_mixObjects_23 : decode cX11_mixObjects 23 = .ok (.if_icmp .gt 23, 3) := by decide +kernel
theorem dX11_mixObjects_26 : decode cX11_mixObjects 26 = .ok (.lload_n 3, 1) := by decide +kernel
theorem dX11_mixObjects_27 : decode cX11_mixObjects 27 = .ok (.aload_n 0, 1) := by decide +kernel
theorem dX11_mixObjects_28 : decode cX11_mixObjects 28 = .ok (.iload 5, 2) := by decide +kernel
theorem dX11_mixObjects_30 : decode cX11_mixObjects 30 = .ok (.iload 6, 2) := by decide +kernel
theorem dX11_mixObjects_32 : decode cX11_mixObjects 32 = .ok (.invokevirtual 426, 3) := by decide +kernel
theorem dX11_mixObjects_35 : decode cX11_mixObjects 35 = .ok (.i2l, 1) := by decide +kernel
theorem dX11_mixObjects_36 : decode cX11_mixObjects 36 = .ok (.invokestatic 396, 3) := by decide +kernel
theorem dX11_mixObjects_39 : decode cX11_mixObjects 39 = .ok (.lstore_n 3, 1) := by decide +kernel
theorem dX11_mixObjects_40 : decode cX11_mixObjects 40 = .ok (.iinc 6 1, 3) := by decide +kernel
theorem dX11_mixObjects_43 : decode cX11_mixObjects 43 = .ok (.goto (-23), 3) := by decide +kernel
theorem dX11_mixObjects_46 : decode cX11_mixObjects 46 = .ok (.iinc 5 1, 3) := by decide +kernel
theorem dX11_mixObjects_49 : decode cX11_mixObjects 49 = .ok (.goto (-44), 3) := by decide +kernel
theorem dX11_mixObjects_52 : decode cX11_mixObjects 52 = .ok (.lload_n 3, 1) := by decide +kernel
theorem dX11_mixObjects_53 : decode cX11_mixObjects 53 = .ok (.lreturn, 1) := by decide +kernel
def g_X11_mixObjects : Nat → EA := (t_n 26 (t_n 11 (t_n 3 (t_n 1 (t_l 0 (a_lload 1 1)) (t_n 2 (t_l 1 (a_lstore 7 1 3)) (t_l 2 (a_push 1 (.int 0))))) (t_n 7 (t_n 5 (t_l 3 (a_istore 7 2 5)) (t_l 5 (a_iload 2 5))) (t_n 8 (t_l 7 (a_aload 1 0)) (t_l 8 (a_getf 11 0))))) (t_n 18 (t_n 14 (t_l 11 (a_inv true 86 1 (some 6))) (t_n 17 (t_l 14 (a_ic 52 (fun x y => decide (y ≤ x)))) (t_l 17 (a_push 1 (.int 0))))) (t_n 22 (t_n 20 (t_l 18 (a_istore 7 2 6)) (t_l 20 (a_iload 2 6))) (t_n 23 (t_l 22 (a_push 1 (.int 3))) (t_l 23 (a_ic 46 (fun x y => decide (y < x)))))))) (t_n 39 (t_n 30 (t_n 27 (t_l 26 (a_lload 1 3)) (t_n 28 (t_l 27 (a_aload 1 0)) (t_l 28 (a_iload 2 5)))) (t_n 35 (t_n 32 (t_l 30 (a_iload 2 6)) (t_l 32 (a_inv true 168 3 (some 11)))) (t_n 36 (t_l 35 (a_i (fun x => .long x.toInt64))) (t_l 36 (a_inv true 191 2 none))))) (t_n 46 (t_n 40 (t_l 39 (a_lstore 7 1 3)) (t_n 43 (t_l 40 (a_iinc 7 6 1)) (t_l 43 (a_goto 20)))) (t_n 52 (t_n 49 (t_l 46 (a_iinc 7 5 1)) (t_l 49 (a_goto 5))) (t_n 53 (t_l 52 (a_lload 1 3)) (t_l 53 a_lret))))))
set_option maxRecDepth 100000 in
theorem k_X11_mixObjects (sc : Nat × (Nat → Int32)) (d : Nat) : ∀ pc, ev_Ok cX11_mixObjects 7 [] RX11 lw_g lw_n (lw_q sc) vwCl false (ev_CO mt lw_g lw_n (lw_q sc) vwCl d) pc (g_X11_mixObjects pc) := (ok_t_n (ok_t_n (ok_t_n (ok_t_n (ok_t_l (ok_lload_n dX11_mixObjects_0 rfl)) (ok_t_n (ok_t_l (ok_lstore_n dX11_mixObjects_1 rfl)) (ok_t_l (ok_iconst dX11_mixObjects_2 rfl)))) (ok_t_n (ok_t_n (ok_t_l (ok_istore dX11_mixObjects_3)) (ok_t_l (ok_iload dX11_mixObjects_5))) (ok_t_n (ok_t_l (ok_aload_n dX11_mixObjects_7 rfl)) (ok_t_l (ok_getfield dX11_mixObjects_8 (ci := 11) (kf := 0) rfl inGX11 (by decide) w_1306))))) (ok_t_n (ok_t_n (ok_t_l (ok_inv (run_V (y := 86) (n := 0) (ci := 6) dX11_mixObjects_11 cz_86 gdG cc_86 ci_86 w_800 cm_86 cs_86 cd_86 cl_86 rfl rfl))) (ok_t_n (ok_t_l (ok_icmp_ge dX11_mixObjects_14 rfl)) (ok_t_l (ok_iconst dX11_mixObjects_17 rfl)))) (ok_t_n (ok_t_n (ok_t_l (ok_istore dX11_mixObjects_18)) (ok_t_l (ok_iload dX11_mixObjects_20))) (ok_t_n (ok_t_l (ok_iconst dX11_mixObjects_22 rfl)) (ok_t_l (ok_icmp_gt dX11_mixObjects_23 rfl)))))) (ok_t_n (ok_t_n (ok_t_n (ok_t_l (ok_lload_n dX11_mixObjects_26 rfl)) (ok_t_n (ok_t_l (ok_aload_n dX11_mixObjects_27 rfl)) (ok_t_l (ok_iload dX11_mixObjects_28)))) (ok_t_n (ok_t_n (ok_t_l (ok_iload dX11_mixObjects_30)) (ok_t_l (ok_inv (run_V (y := 168) (n := 2) (ci := 11) dX11_mixObjects_32 cz_168 gdG cc_168 ci_168 w_850 cm_168 cs_168 cd_168 cl_168 rfl rfl)))) (ok_t_n (ok_t_l (ok_i2l dX11_mixObjects_35)) (ok_t_l (ok_inv (run_S (y := 191) (n := 2) dX11_mixObjects_36 cz_191 gdG cc_191 ci_191 w_841 cm_191 cd_191 cl_191)))))) (ok_t_n (ok_t_n (ok_t_l (ok_lstore_n dX11_mixObjects_39 rfl)) (ok_t_n (ok_t_l (ok_iinc dX11_mixObjects_40 rfl)) (ok_t_l (ok_goto dX11_mixObjects_43 rfl)))) (ok_t_n (ok_t_n (ok_t_l (ok_iinc dX11_mixObjects_46 rfl)) (ok_t_l (ok_goto dX11_mixObjects_49 rfl))) (ok_t_n (ok_t_l (ok_lload_n dX11_mixObjects_52 rfl)) (ok_t_l (ok_lreturn dX11_mixObjects_53)))))))
theorem dX11_mixSections_0 : decode cX11_mixSections 0 = .ok (.lload_n 1, 1) := by decide +kernel
theorem dX11_mixSections_1 : decode cX11_mixSections 1 = .ok (.lstore_n 3, 1) := by decide +kernel
theorem dX11_mixSections_2 : decode cX11_mixSections 2 = .ok (.iconst 0, 1) := by decide +kernel
theorem dX11_mixSections_3 : decode cX11_mixSections 3 = .ok (.istore 5, 2) := by decide +kernel
theorem dX11_mixSections_5 : decode cX11_mixSections 5 = .ok (.iload 5, 2) := by decide +kernel
theorem dX11_mixSections_7 : decode cX11_mixSections 7 = .ok (.aload_n 0, 1) := by decide +kernel
theorem dX11_mixSections_8 : decode cX11_mixSections 8 = .ok (.getfield 19, 3) := by decide +kernel
theorem dX11_mixSections_11 : decode cX11_mixSections 11 = .ok (.invokevirtual 353, 3) := by decide +kernel
theorem dX11_mixSections_14 : decode cX11_mixSections 14 = .ok (.if_icmp .ge 39, 3) := by decide +kernel
theorem dX11_mixSections_17 : decode cX11_mixSections 17 = .ok (.iconst 0, 1) := by decide +kernel
theorem dX11_mixSections_18 : decode cX11_mixSections 18 = .ok (.istore 6, 2) := by decide +kernel
theorem dX11_mixSections_20 : decode cX11_mixSections 20 = .ok (.iload 6, 2) := by decide +kernel
theorem dX11_mixSections_22 : decode cX11_mixSections 22 = .ok (.bipush 6, 2) := by decide +kernel
theorem dX11_mixSections_24 : decode cX11_mixSections 24 = .ok (.if_icmp .gt 23, 3) := by decide +kernel
theorem dX11_mixSections_27 : decode cX11_mixSections 27 = .ok (.lload_n 3, 1) := by decide +kernel
theorem dX11_mixSections_28 : decode cX11_mixSections 28 = .ok (.aload_n 0, 1) := by decide +kernel
theorem dX11_mixSections_29 : decode cX11_mixSections 29 = .ok (.iload 5, 2) := by decide +kernel
theorem dX11_mixSections_31 : decode cX11_mixSections 31 = .ok (.iload 6, 2) := by decide +kernel
theorem dX11_mixSections_33 : decode cX11_mixSections 33 = .ok (.invokevirtual 429, 3) := by decide +kernel
theorem dX11_mixSections_36 : decode cX11_mixSections 36 = .ok (.i2l, 1) := by decide +kernel
theorem dX11_mixSections_37 : decode cX11_mixSections 37 = .ok (.invokestatic 396, 3) := by decide +kernel
theorem dX11_mixSections_40 : decode cX11_mixSections 40 = .ok (.lstore_n 3, 1) := by decide +kernel
theorem dX11_mixSections_41 : decode cX11_mixSections 41 = .ok (.iinc 6 1, 3) := by decide +kernel
theorem dX11_mixSections_44 : decode cX11_mixSections 44 = .ok (.goto (-24), 3) := by decide +kernel
theorem dX11_mixSections_47 : decode cX11_mixSections 47 = .ok (.iinc 5 1, 3) := by decide +kernel
theorem dX11_mixSections_50 : decode cX11_mixSections 50 = .ok (.goto (-45), 3) := by decide +kernel
theorem dX11_mixSections_53 : decode cX11_mixSections 53 = .ok (.lload_n 3, 1) := by decide +kernel
theorem dX11_mixSections_54 : decode cX11_mixSections 54 = .ok (.lreturn, 1) := by decide +kernel
def g_X11_mixSections : Nat → EA := (t_n 27 (t_n 11 (t_n 3 (t_n 1 (t_l 0 (a_lload 1 1)) (t_n 2 (t_l 1 (a_lstore 7 1 3)) (t_l 2 (a_push 1 (.int 0))))) (t_n 7 (t_n 5 (t_l 3 (a_istore 7 2 5)) (t_l 5 (a_iload 2 5))) (t_n 8 (t_l 7 (a_aload 1 0)) (t_l 8 (a_getf 11 1))))) (t_n 18 (t_n 14 (t_l 11 (a_inv true 117 1 (some 8))) (t_n 17 (t_l 14 (a_ic 53 (fun x y => decide (y ≤ x)))) (t_l 17 (a_push 1 (.int 0))))) (t_n 22 (t_n 20 (t_l 18 (a_istore 7 2 6)) (t_l 20 (a_iload 2 6))) (t_n 24 (t_l 22 (a_push 2 (.int 6))) (t_l 24 (a_ic 47 (fun x y => decide (y < x)))))))) (t_n 40 (t_n 31 (t_n 28 (t_l 27 (a_lload 1 3)) (t_n 29 (t_l 28 (a_aload 1 0)) (t_l 29 (a_iload 2 5)))) (t_n 36 (t_n 33 (t_l 31 (a_iload 2 6)) (t_l 33 (a_inv true 171 3 (some 11)))) (t_n 37 (t_l 36 (a_i (fun x => .long x.toInt64))) (t_l 37 (a_inv true 191 2 none))))) (t_n 47 (t_n 41 (t_l 40 (a_lstore 7 1 3)) (t_n 44 (t_l 41 (a_iinc 7 6 1)) (t_l 44 (a_goto 20)))) (t_n 53 (t_n 50 (t_l 47 (a_iinc 7 5 1)) (t_l 50 (a_goto 5))) (t_n 54 (t_l 53 (a_lload 1 3)) (t_l 54 a_lret))))))
set_option maxRecDepth 100000 in
theorem k_X11_mixSections (sc : Nat × (Nat → Int32)) (d : Nat) : ∀ pc, ev_Ok cX11_mixSections 7 [] RX11 lw_g lw_n (lw_q sc) vwCl false (ev_CO mt lw_g lw_n (lw_q sc) vwCl d) pc (g_X11_mixSections pc) := (ok_t_n (ok_t_n (ok_t_n (ok_t_n (ok_t_l (ok_lload_n dX11_mixSections_0 rfl)) (ok_t_n (ok_t_l (ok_lstore_n dX11_mixSections_1 rfl)) (ok_t_l (ok_iconst dX11_mixSections_2 rfl)))) (ok_t_n (ok_t_n (ok_t_l (ok_istore dX11_mixSections_3)) (ok_t_l (ok_iload dX11_mixSections_5))) (ok_t_n (ok_t_l (ok_aload_n dX11_mixSections_7 rfl)) (ok_t_l (ok_getfield dX11_mixSections_8 (ci := 11) (kf := 1) rfl inGX11 (by decide) w_1307))))) (ok_t_n (ok_t_n (ok_t_l (ok_inv (run_V (y := 117) (n := 0) (ci := 8) dX11_mixSections_11 cz_117 gdG cc_117 ci_117 w_804 cm_117 cs_117 cd_117 cl_117 rfl rfl))) (ok_t_n (ok_t_l (ok_icmp_ge dX11_mixSections_14 rfl)) (ok_t_l (ok_iconst dX11_mixSections_17 rfl)))) (ok_t_n (ok_t_n (ok_t_l (ok_istore dX11_mixSections_18)) (ok_t_l (ok_iload dX11_mixSections_20))) (ok_t_n (ok_t_l (ok_bipush dX11_mixSections_22 rfl)) (ok_t_l (ok_icmp_gt dX11_mixSections_24 rfl)))))) (ok_t_n (ok_t_n (ok_t_n (ok_t_l (ok_lload_n dX11_mixSections_27 rfl)) (ok_t_n (ok_t_l (ok_aload_n dX11_mixSections_28 rfl)) (ok_t_l (ok_iload dX11_mixSections_29)))) (ok_t_n (ok_t_n (ok_t_l (ok_iload dX11_mixSections_31)) (ok_t_l (ok_inv (run_V (y := 171) (n := 2) (ci := 11) dX11_mixSections_33 cz_171 gdG cc_171 ci_171 w_855 cm_171 cs_171 cd_171 cl_171 rfl rfl)))) (ok_t_n (ok_t_l (ok_i2l dX11_mixSections_36)) (ok_t_l (ok_inv (run_S (y := 191) (n := 2) dX11_mixSections_37 cz_191 gdG cc_191 ci_191 w_841 cm_191 cd_191 cl_191)))))) (ok_t_n (ok_t_n (ok_t_l (ok_lstore_n dX11_mixSections_40 rfl)) (ok_t_n (ok_t_l (ok_iinc dX11_mixSections_41 rfl)) (ok_t_l (ok_goto dX11_mixSections_44 rfl)))) (ok_t_n (ok_t_n (ok_t_l (ok_iinc dX11_mixSections_47 rfl)) (ok_t_l (ok_goto dX11_mixSections_50 rfl))) (ok_t_n (ok_t_l (ok_lload_n dX11_mixSections_53 rfl)) (ok_t_l (ok_lreturn dX11_mixSections_54)))))))
theorem dX11_mixNames_0 : decode cX11_mixNames 0 = .ok (.lload_n 1, 1) := by decide +kernel
theorem dX11_mixNames_1 : decode cX11_mixNames 1 = .ok (.lstore_n 3, 1) := by decide +kernel
theorem dX11_mixNames_2 : decode cX11_mixNames 2 = .ok (.iconst 0, 1) := by decide +kernel
theorem dX11_mixNames_3 : decode cX11_mixNames 3 = .ok (.istore 5, 2) := by decide +kernel
theorem dX11_mixNames_5 : decode cX11_mixNames 5 = .ok (.iload 5, 2) := by decide +kernel
theorem dX11_mixNames_7 : decode cX11_mixNames 7 = .ok (.bipush 20, 2) := by decide +kernel
theorem dX11_mixNames_9 : decode cX11_mixNames 9 = .ok (.if_icmp .ge 38, 3) := by decide +kernel
theorem dX11_mixNames_12 : decode cX11_mixNames 12 = .ok (.iconst 0, 1) := by decide +kernel
theorem dX11_mixNames_13 : decode cX11_mixNames 13 = .ok (.istore 6, 2) := by decide +kernel
theorem dX11_mixNames_15 : decode cX11_mixNames 15 = .ok (.iload 6, 2) := by decide +kernel
theorem dX11_mixNames_17 : decode cX11_mixNames 17 = .ok (.iconst 4, 1) := by decide +kernel
theorem dX11_mixNames_18 : decode cX11_mixNames 18 = .ok (.if_icmp .gt 23, 3) := by decide +kernel
theorem dX11_mixNames_21 : decode cX11_mixNames 21 = .ok (.lload_n 3, 1) := by decide +kernel
theorem dX11_mixNames_22 : decode cX11_mixNames 22 = .ok (.aload_n 0, 1) := by decide +kernel
theorem dX11_mixNames_23 : decode cX11_mixNames 23 = .ok (.iload 5, 2) := by decide +kernel
theorem dX11_mixNames_25 : decode cX11_mixNames 25 = .ok (.iload 6, 2) := by decide +kernel
theorem dX11_mixNames_27 : decode cX11_mixNames 27 = .ok (.invokevirtual 432, 3) := by decide +kernel
theorem dX11_mixNames_30 : decode cX11_mixNames 30 = .ok (.i2l, 1) := by decide +kernel
theorem dX11_mixNames_31 : decode cX11_mixNames 31 = .ok (.invokestatic 396, 3) := by decide +kernel
theorem dX11_mixNames_34 : decode cX11_mixNames 34 = .ok (.lstore_n 3, 1) := by decide +kernel
theorem dX11_mixNames_35 : decode cX11_mixNames 35 = .ok (.iinc 6 1, 3) := by decide +kernel
theorem dX11_mixNames_38 : decode cX11_mixNames 38 = .ok (.goto (-23), 3) := by decide +kernel
theorem dX11_mixNames_41 : decode cX11_mixNames 41 = .ok (.iinc 5 1, 3) := by decide +kernel
theorem dX11_mixNames_44 : decode cX11_mixNames 44 = .ok (.goto (-39), 3) := by decide +kernel
theorem dX11_mixNames_47 : decode cX11_mixNames 47 = .ok (.lload_n 3, 1) := by decide +kernel
theorem dX11_mixNames_48 : decode cX11_mixNames 48 = .ok (.lreturn, 1) := by decide +kernel
def g_X11_mixNames : Nat → EA := (t_n 22 (t_n 9 (t_n 3 (t_n 1 (t_l 0 (a_lload 1 1)) (t_n 2 (t_l 1 (a_lstore 7 1 3)) (t_l 2 (a_push 1 (.int 0))))) (t_n 5 (t_l 3 (a_istore 7 2 5)) (t_n 7 (t_l 5 (a_iload 2 5)) (t_l 7 (a_push 2 (.int 20)))))) (t_n 15 (t_n 12 (t_l 9 (a_ic 47 (fun x y => decide (y ≤ x)))) (t_n 13 (t_l 12 (a_push 1 (.int 0))) (t_l 13 (a_istore 7 2 6)))) (t_n 18 (t_n 17 (t_l 15 (a_iload 2 6)) (t_l 17 (a_push 1 (.int 4)))) (t_n 21 (t_l 18 (a_ic 41 (fun x y => decide (y < x)))) (t_l 21 (a_lload 1 3)))))) (t_n 34 (t_n 27 (t_n 23 (t_l 22 (a_aload 1 0)) (t_n 25 (t_l 23 (a_iload 2 5)) (t_l 25 (a_iload 2 6)))) (t_n 30 (t_l 27 (a_inv true 172 3 (some 11))) (t_n 31 (t_l 30 (a_i (fun x => .long x.toInt64))) (t_l 31 (a_inv true 191 2 none))))) (t_n 41 (t_n 35 (t_l 34 (a_lstore 7 1 3)) (t_n 38 (t_l 35 (a_iinc 7 6 1)) (t_l 38 (a_goto 15)))) (t_n 47 (t_n 44 (t_l 41 (a_iinc 7 5 1)) (t_l 44 (a_goto 5))) (t_n 48 (t_l 47 (a_lload 1 3)) (t_l 48 a_lret))))))
set_option maxRecDepth 100000 in
theorem k_X11_mixNames (sc : Nat × (Nat → Int32)) (d : Nat) : ∀ pc, ev_Ok cX11_mixNames 7 [] RX11 lw_g lw_n (lw_q sc) vwCl false (ev_CO mt lw_g lw_n (lw_q sc) vwCl d) pc (g_X11_mixNames pc) := (ok_t_n (ok_t_n (ok_t_n (ok_t_n (ok_t_l (ok_lload_n dX11_mixNames_0 rfl)) (ok_t_n (ok_t_l (ok_lstore_n dX11_mixNames_1 rfl)) (ok_t_l (ok_iconst dX11_mixNames_2 rfl)))) (ok_t_n (ok_t_l (ok_istore dX11_mixNames_3)) (ok_t_n (ok_t_l (ok_iload dX11_mixNames_5)) (ok_t_l (ok_bipush dX11_mixNames_7 rfl))))) (ok_t_n (ok_t_n (ok_t_l (ok_icmp_ge dX11_mixNames_9 rfl)) (ok_t_n (ok_t_l (ok_iconst dX11_mixNames_12 rfl)) (ok_t_l (ok_istore dX11_mixNames_13)))) (ok_t_n (ok_t_n (ok_t_l (ok_iload dX11_mixNames_15)) (ok_t_l (ok_iconst dX11_mixNames_17 rfl))) (ok_t_n (ok_t_l (ok_icmp_gt dX11_mixNames_18 rfl)) (ok_t_l (ok_lload_n dX11_mixNames_21 rfl)))))) (ok_t_n (ok_t_n (ok_t_n (ok_t_l (ok_aload_n dX11_mixNames_22 rfl)) (ok_t_n (ok_t_l (ok_iload dX11_mixNames_23)) (ok_t_l (ok_iload dX11_mixNames_25)))) (ok_t_n (ok_t_l (ok_inv (run_V (y := 172) (n := 2) (ci := 11) dX11_mixNames_27 cz_172 gdG cc_172 ci_172 w_860 cm_172 cs_172 cd_172 cl_172 rfl rfl))) (ok_t_n (ok_t_l (ok_i2l dX11_mixNames_30)) (ok_t_l (ok_inv (run_S (y := 191) (n := 2) dX11_mixNames_31 cz_191 gdG cc_191 ci_191 w_841 cm_191 cd_191 cl_191)))))) (ok_t_n (ok_t_n (ok_t_l (ok_lstore_n dX11_mixNames_34 rfl)) (ok_t_n (ok_t_l (ok_iinc dX11_mixNames_35 rfl)) (ok_t_l (ok_goto dX11_mixNames_38 rfl)))) (ok_t_n (ok_t_n (ok_t_l (ok_iinc dX11_mixNames_41 rfl)) (ok_t_l (ok_goto dX11_mixNames_44 rfl))) (ok_t_n (ok_t_l (ok_lload_n dX11_mixNames_47 rfl)) (ok_t_l (ok_lreturn dX11_mixNames_48)))))))
theorem dX11_mixFaults_0 : decode cX11_mixFaults 0 = .ok (.lload_n 1, 1) := by decide +kernel
theorem dX11_mixFaults_1 : decode cX11_mixFaults 1 = .ok (.lstore_n 3, 1) := by decide +kernel
theorem dX11_mixFaults_2 : decode cX11_mixFaults 2 = .ok (.iconst 0, 1) := by decide +kernel
theorem dX11_mixFaults_3 : decode cX11_mixFaults 3 = .ok (.istore 5, 2) := by decide +kernel
theorem dX11_mixFaults_5 : decode cX11_mixFaults 5 = .ok (.iload 5, 2) := by decide +kernel
theorem dX11_mixFaults_7 : decode cX11_mixFaults 7 = .ok (.aload_n 0, 1) := by decide +kernel
theorem dX11_mixFaults_8 : decode cX11_mixFaults 8 = .ok (.getfield 56, 3) := by decide +kernel
theorem dX11_mixFaults_11 : decode cX11_mixFaults 11 = .ok (.getfield 206, 3) := by decide +kernel
theorem dX11_mixFaults_14 : decode cX11_mixFaults 14 = .ok (.invokevirtual 210, 3) := by decide +kernel
theorem dX11_mixFaults_17 : decode cX11_mixFaults 17 = .ok (.if_icmp .ge 38, 3) := by decide +kernel
theorem dX11_mixFaults_20 : decode cX11_mixFaults 20 = .ok (.iconst 0, 1) := by decide +kernel
theorem dX11_mixFaults_21 : decode cX11_mixFaults 21 = .ok (.istore 6, 2) := by decide +kernel
theorem dX11_mixFaults_23 : decode cX11_mixFaults 23 = .ok (.iload 6, 2) := by decide +kernel
theorem dX11_mixFaults_25 : decode cX11_mixFaults 25 = .ok (.iconst 4, 1) := by decide +kernel
theorem dX11_mixFaults_26 : decode cX11_mixFaults 26 = .ok (.if_icmp .ge 23, 3) := by decide +kernel
theorem dX11_mixFaults_29 : decode cX11_mixFaults 29 = .ok (.lload_n 3, 1) := by decide +kernel
theorem dX11_mixFaults_30 : decode cX11_mixFaults 30 = .ok (.aload_n 0, 1) := by decide +kernel
theorem dX11_mixFaults_31 : decode cX11_mixFaults 31 = .ok (.iload 5, 2) := by decide +kernel
theorem dX11_mixFaults_33 : decode cX11_mixFaults 33 = .ok (.iload 6, 2) := by decide +kernel
theorem dX11_mixFaults_35 : decode cX11_mixFaults 35 = .ok (.invokevirtual 435, 3) := by decide +kernel
theorem dX11_mixFaults_38 : decode cX11_mixFaults 38 = .ok (.i2l, 1) := by decide +kernel
theorem dX11_mixFaults_39 : decode cX11_mixFaults 39 = .ok (.invokestatic 396, 3) := by decide +kernel
theorem dX11_mixFaults_42 : decode cX11_mixFaults 42 = .ok (.lstore_n 3, 1) := by decide +kernel
theorem dX11_mixFaults_43 : decode cX11_mixFaults 43 = .ok (.iinc 6 1, 3) := by decide +kernel
theorem dX11_mixFaults_46 : decode cX11_mixFaults 46 = .ok (.goto (-23), 3) := by decide +kernel
theorem dX11_mixFaults_49 : decode cX11_mixFaults 49 = .ok (.iinc 5 1, 3) := by decide +kernel
theorem dX11_mixFaults_52 : decode cX11_mixFaults 52 = .ok (.goto (-47), 3) := by decide +kernel
theorem dX11_mixFaults_55 : decode cX11_mixFaults 55 = .ok (.lload_n 3, 1) := by decide +kernel
theorem dX11_mixFaults_56 : decode cX11_mixFaults 56 = .ok (.lreturn, 1) := by decide +kernel
def g_X11_mixFaults : Nat → EA := (t_n 26 (t_n 11 (t_n 3 (t_n 1 (t_l 0 (a_lload 1 1)) (t_n 2 (t_l 1 (a_lstore 7 1 3)) (t_l 2 (a_push 1 (.int 0))))) (t_n 7 (t_n 5 (t_l 3 (a_istore 7 2 5)) (t_l 5 (a_iload 2 5))) (t_n 8 (t_l 7 (a_aload 1 0)) (t_l 8 (a_getf 11 5))))) (t_n 20 (t_n 14 (t_l 11 (a_getf 5 5)) (t_n 17 (t_l 14 (a_inv true 1 1 (some 0))) (t_l 17 (a_ic 55 (fun x y => decide (y ≤ x)))))) (t_n 23 (t_n 21 (t_l 20 (a_push 1 (.int 0))) (t_l 21 (a_istore 7 2 6))) (t_n 25 (t_l 23 (a_iload 2 6)) (t_l 25 (a_push 1 (.int 4))))))) (t_n 39 (t_n 31 (t_n 29 (t_l 26 (a_ic 49 (fun x y => decide (y ≤ x)))) (t_n 30 (t_l 29 (a_lload 1 3)) (t_l 30 (a_aload 1 0)))) (t_n 35 (t_n 33 (t_l 31 (a_iload 2 5)) (t_l 33 (a_iload 2 6))) (t_n 38 (t_l 35 (a_inv true 173 3 (some 11))) (t_l 38 (a_i (fun x => .long x.toInt64)))))) (t_n 49 (t_n 43 (t_n 42 (t_l 39 (a_inv true 191 2 none)) (t_l 42 (a_lstore 7 1 3))) (t_n 46 (t_l 43 (a_iinc 7 6 1)) (t_l 46 (a_goto 23)))) (t_n 55 (t_n 52 (t_l 49 (a_iinc 7 5 1)) (t_l 52 (a_goto 5))) (t_n 56 (t_l 55 (a_lload 1 3)) (t_l 56 a_lret))))))
set_option maxRecDepth 100000 in
theorem k_X11_mixFaults (sc : Nat × (Nat → Int32)) (d : Nat) : ∀ pc, ev_Ok cX11_mixFaults 7 [] RX11 lw_g lw_n (lw_q sc) vwCl false (ev_CO mt lw_g lw_n (lw_q sc) vwCl d) pc (g_X11_mixFaults pc) := (ok_t_n (ok_t_n (ok_t_n (ok_t_n (ok_t_l (ok_lload_n dX11_mixFaults_0 rfl)) (ok_t_n (ok_t_l (ok_lstore_n dX11_mixFaults_1 rfl)) (ok_t_l (ok_iconst dX11_mixFaults_2 rfl)))) (ok_t_n (ok_t_n (ok_t_l (ok_istore dX11_mixFaults_3)) (ok_t_l (ok_iload dX11_mixFaults_5))) (ok_t_n (ok_t_l (ok_aload_n dX11_mixFaults_7 rfl)) (ok_t_l (ok_getfield dX11_mixFaults_8 (ci := 11) (kf := 5) rfl inGX11 (by decide) w_1311))))) (ok_t_n (ok_t_n (ok_t_l (ok_getfieldN dX11_mixFaults_11 (ci := 5) (kf := 5) rfl inGX5 (by decide) (nst_29))) (ok_t_n (ok_t_l (ok_inv (run_V (y := 1) (n := 0) (ci := 0) dX11_mixFaults_14 cz_1 gdG cc_1 ci_1 w_610 cm_1 cs_1 cd_1 cl_1 rfl rfl))) (ok_t_l (ok_icmp_ge dX11_mixFaults_17 rfl)))) (ok_t_n (ok_t_n (ok_t_l (ok_iconst dX11_mixFaults_20 rfl)) (ok_t_l (ok_istore dX11_mixFaults_21))) (ok_t_n (ok_t_l (ok_iload dX11_mixFaults_23)) (ok_t_l (ok_iconst dX11_mixFaults_25 rfl)))))) (ok_t_n (ok_t_n (ok_t_n (ok_t_l (ok_icmp_ge dX11_mixFaults_26 rfl)) (ok_t_n (ok_t_l (ok_lload_n dX11_mixFaults_29 rfl)) (ok_t_l (ok_aload_n dX11_mixFaults_30 rfl)))) (ok_t_n (ok_t_n (ok_t_l (ok_iload dX11_mixFaults_31)) (ok_t_l (ok_iload dX11_mixFaults_33))) (ok_t_n (ok_t_l (ok_inv (run_V (y := 173) (n := 2) (ci := 11) dX11_mixFaults_35 cz_173 gdG cc_173 ci_173 w_880 cm_173 cs_173 cd_173 cl_173 rfl rfl))) (ok_t_l (ok_i2l dX11_mixFaults_38))))) (ok_t_n (ok_t_n (ok_t_n (ok_t_l (ok_inv (run_S (y := 191) (n := 2) dX11_mixFaults_39 cz_191 gdG cc_191 ci_191 w_841 cm_191 cd_191 cl_191))) (ok_t_l (ok_lstore_n dX11_mixFaults_42 rfl))) (ok_t_n (ok_t_l (ok_iinc dX11_mixFaults_43 rfl)) (ok_t_l (ok_goto dX11_mixFaults_46 rfl)))) (ok_t_n (ok_t_n (ok_t_l (ok_iinc dX11_mixFaults_49 rfl)) (ok_t_l (ok_goto dX11_mixFaults_52 rfl))) (ok_t_n (ok_t_l (ok_lload_n dX11_mixFaults_55 rfl)) (ok_t_l (ok_lreturn dX11_mixFaults_56)))))))
theorem dX11_mixLibrary_0 : decode cX11_mixLibrary 0 = .ok (.lload_n 1, 1) := by decide +kernel
theorem dX11_mixLibrary_1 : decode cX11_mixLibrary 1 = .ok (.lstore 4, 2) := by decide +kernel
theorem dX11_mixLibrary_3 : decode cX11_mixLibrary 3 = .ok (.iconst 0, 1) := by decide +kernel
theorem dX11_mixLibrary_4 : decode cX11_mixLibrary 4 = .ok (.istore 6, 2) := by decide +kernel
theorem dX11_mixLibrary_6 : decode cX11_mixLibrary 6 = .ok (.iload 6, 2) := by decide +kernel
theorem dX11_mixLibrary_8 : decode cX11_mixLibrary 8 = .ok (.bipush 7, 2) := by decide +kernel
theorem dX11_mixLibrary_10 : decode cX11_mixLibrary 10 = .ok (.if_icmp .gt 24, 3) := by decide +kernel
theorem dX11_mixLibrary_13 : decode cX11_mixLibrary 13 = .ok (.lload 4, 2) := by decide +kernel
theorem dX11_mixLibrary_15 : decode cX11_mixLibrary 15 = .ok (.aload_n 0, 1) := by decide +kernel
theorem dX11_mixLibrary_16 : decode cX11_mixLibrary 16 = .ok (.iload_n 3, 1) := by decide +kernel
theorem dX11_mixLibrary_17 : decode cX11_mixLibrary 17 = .ok (.iload 6, 2) := by decide +kernel
theorem dX11_mixLibrary_19 : decode cX11_mixLibrary 19 = .ok (.invokevirtual 438, 3) := by decide +kernel
theorem dX11_mixLibrary_22 : decode cX11_mixLibrary 22 = .ok (.i2l, 1) := by decide +kernel
theorem dX11_mixLibrary_23 : decode cX11_mixLibrary 23 = .ok (.invokestatic 396, 3) := by decide +kernel
theorem dX11_mixLibrary_26 : decode cX11_mixLibrary 26 = .ok (.lstore 4, 2) := by decide +kernel
theorem dX11_mixLibrary_28 : decode cX11_mixLibrary 28 = .ok (.iinc 6 1, 3) := by decide +kernel
theorem dX11_mixLibrary_31 : decode cX11_mixLibrary 31 = .ok (.goto (-25), 3) := by decide +kernel
theorem dX11_mixLibrary_34 : decode cX11_mixLibrary 34 = .ok (.lload 4, 2) := by decide +kernel
theorem dX11_mixLibrary_36 : decode cX11_mixLibrary 36 = .ok (.aload_n 0, 1) := by decide +kernel
theorem dX11_mixLibrary_37 : decode cX11_mixLibrary 37 = .ok (.iload_n 3, 1) := by decide +kernel
theorem dX11_mixLibrary_38 : decode cX11_mixLibrary 38 = .ok (.invokevirtual 441, 3) := by decide +kernel
theorem dX11_mixLibrary_41 : decode cX11_mixLibrary 41 = .ok (.i2l, 1) := by decide +kernel
theorem dX11_mixLibrary_42 : decode cX11_mixLibrary 42 = .ok (.invokestatic 396, 3) := by decide +kernel
theorem dX11_mixLibrary_45 : decode cX11_mixLibrary 45 = .ok (.lstore 4, 2) := by decide +kernel
theorem dX11_mixLibrary_47 : decode cX11_mixLibrary 47 = .ok (.iconst 0, 1) := by decide +kernel
theorem dX11_mixLibrary_48 : decode cX11_mixLibrary 48 = .ok (.istore 6, 2) := by decide +kernel
theorem dX11_mixLibrary_50 : decode cX11_mixLibrary 50 = .ok (.iload 6, 2) := by decide +kernel
theorem dX11_mixLibrary_52 : decode cX11_mixLibrary 52 = .ok (.bipush 20, 2) := by decide +kernel
theorem dX11_mixLibrary_54 : decode cX11_mixLibrary 54 = .ok (.if_icmp .ge 56, 3) := by decide +kernel
theorem dX11_mixLibrary_57 : decode cX11_mixLibrary 57 = .ok (.iconst 0, 1) := by decide +kernel
theorem dX11_mixLibrary_58 : decode cX11_mixLibrary 58 = .ok (.istore 7, 2) := by decide +kernel
theorem dX11_mixLibrary_60 : decode cX11_mixLibrary 60 = .ok (.iload 7, 2) := by decide +kernel
theorem dX11_mixLibrary_62 : decode cX11_mixLibrary 62 = .ok (.iconst 3, 1) := by decide +kernel
theorem dX11_mixLibrary_63 : decode cX11_mixLibrary 63 = .ok (.if_icmp .gt 26, 3) := by decide +kernel
theorem dX11_mixLibrary_66 : decode cX11_mixLibrary 66 = .ok (.lload 4, 2) := by decide +kernel
theorem dX11_mixLibrary_68 : decode cX11_mixLibrary 68 = .ok (.aload_n 0, 1) := by decide +kernel
theorem dX11_mixLibrary_69 : decode cX11_mixLibrary 69 = .ok (.iload_n 3, 1) := by decide +kernel
theorem dX11_mixLibrary_70 : decode cX11_mixLibrary 70 = .ok (.iload 6, 2) := by decide +kernel
theorem dX11_mixLibrary_72 : decode cX11_mixLibrary 72 = .ok (.iload 7, 2) := by decide +kernel
theorem dX11_mixLibrary_74 : decode cX11_mixLibrary 74 = .ok (.invokevirtual 444, 3) := by decide +kernel
theorem dX11_mixLibrary_77 : decode cX11_mixLibrary 77 = .ok (.i2l, 1) := by decide +kernel
theorem dX11_mixLibrary_78 : decode cX11_mixLibrary 78 = .ok (.invokestatic 396, 3) := by decide +kernel
theorem dX11_mixLibrary_81 : decode cX11_mixLibrary 81 = .ok (.lstore 4, 2) := by decide +kernel
theorem dX11_mixLibrary_83 : decode cX11_mixLibrary 83 = .ok (.iinc 7 1, 3) := by decide +kernel
theorem dX11_mixLibrary_86 : decode cX11_mixLibrary 86 = .ok (.goto (-26), 3) := by decide +kernel
theorem dX11_mixLibrary_89 : decode cX11_mixLibrary 89 = .ok (.lload 4, 2) := by decide +kernel
theorem dX11_mixLibrary_91 : decode cX11_mixLibrary 91 = .ok (.aload_n 0, 1) := by decide +kernel
theorem dX11_mixLibrary_92 : decode cX11_mixLibrary 92 = .ok (.iload_n 3, 1) := by decide +kernel
theorem dX11_mixLibrary_93 : decode cX11_mixLibrary 93 = .ok (.iload 6, 2) := by decide +kernel
theorem dX11_mixLibrary_95 : decode cX11_mixLibrary 95 = .ok (.invokevirtual 448, 3) := by decide +kernel
theorem dX11_mixLibrary_98 : decode cX11_mixLibrary 98 = .ok (.i2l, 1) := by decide +kernel
theorem dX11_mixLibrary_99 : decode cX11_mixLibrary 99 = .ok (.invokestatic 396, 3) := by decide +kernel
theorem dX11_mixLibrary_102 : decode cX11_mixLibrary 102 = .ok (.lstore 4, 2) := by decide +kernel
theorem dX11_mixLibrary_104 : decode cX11_mixLibrary 104 = .ok (.iinc 6 1, 3) := by decide +kernel
theorem dX11_mixLibrary_107 : decode cX11_mixLibrary 107 = .ok (.goto (-57), 3) := by decide +kernel
theorem dX11_mixLibrary_110 : decode cX11_mixLibrary 110 = .ok (.lload 4, 2) := by decide +kernel
theorem dX11_mixLibrary_112 : decode cX11_mixLibrary 112 = .ok (.lreturn, 1) := by decide +kernel
def g_X11_mixLibrary : Nat → EA := (t_n 54 (t_n 26 (t_n 13 (t_n 4 (t_n 1 (t_l 0 (a_lload 1 1)) (t_n 3 (t_l 1 (a_lstore 8 2 4)) (t_l 3 (a_push 1 (.int 0))))) (t_n 8 (t_n 6 (t_l 4 (a_istore 8 2 6)) (t_l 6 (a_iload 2 6))) (t_n 10 (t_l 8 (a_push 2 (.int 7))) (t_l 10 (a_ic 34 (fun x y => decide (y < x))))))) (t_n 17 (t_n 15 (t_l 13 (a_lload 2 4)) (t_n 16 (t_l 15 (a_aload 1 0)) (t_l 16 (a_iload 1 3)))) (t_n 22 (t_n 19 (t_l 17 (a_iload 2 6)) (t_l 19 (a_inv true 179 3 (some 11)))) (t_n 23 (t_l 22 (a_i (fun x => .long x.toInt64))) (t_l 23 (a_inv true 191 2 none)))))) (t_n 41 (t_n 34 (t_n 28 (t_l 26 (a_lstore 8 2 4)) (t_n 31 (t_l 28 (a_iinc 8 6 1)) (t_l 31 (a_goto 6)))) (t_n 37 (t_n 36 (t_l 34 (a_lload 2 4)) (t_l 36 (a_aload 1 0))) (t_n 38 (t_l 37 (a_iload 1 3)) (t_l 38 (a_inv true 183 2 (some 11)))))) (t_n 47 (t_n 42 (t_l 41 (a_i (fun x => .long x.toInt64))) (t_n 45 (t_l 42 (a_inv true 191 2 none)) (t_l 45 (a_lstore 8 2 4)))) (t_n 50 (t_n 48 (t_l 47 (a_push 1 (.int 0))) (t_l 48 (a_istore 8 2 6))) (t_n 52 (t_l 50 (a_iload 2 6)) (t_l 52 (a_push 2 (.int 20)))))))) (t_n 81 (t_n 68 (t_n 60 (t_n 57 (t_l 54 (a_ic 110 (fun x y => decide (y ≤ x)))) (t_n 58 (t_l 57 (a_push 1 (.int 0))) (t_l 58 (a_istore 8 2 7)))) (t_n 63 (t_n 62 (t_l 60 (a_iload 2 7)) (t_l 62 (a_push 1 (.int 3)))) (t_n 66 (t_l 63 (a_ic 89 (fun x y => decide (y < x)))) (t_l 66 (a_lload 2 4))))) (t_n 72 (t_n 69 (t_l 68 (a_aload 1 0)) (t_n 70 (t_l 69 (a_iload 1 3)) (t_l 70 (a_iload 2 6)))) (t_n 77 (t_n 74 (t_l 72 (a_iload 2 7)) (t_l 74 (a_inv true 178 4 (some 11)))) (t_n 78 (t_l 77 (a_i (fun x => .long x.toInt64))) (t_l 78 (a_inv true 191 2 none)))))) (t_n 95 (t_n 89 (t_n 83 (t_l 81 (a_lstore 8 2 4)) (t_n 86 (t_l 83 (a_iinc 8 7 1)) (t_l 86 (a_goto 60)))) (t_n 92 (t_n 91 (t_l 89 (a_lload 2 4)) (t_l 91 (a_aload 1 0))) (t_n 93 (t_l 92 (a_iload 1 3)) (t_l 93 (a_iload 2 6))))) (t_n 104 (t_n 99 (t_n 98 (t_l 95 (a_inv true 184 3 (some 11))) (t_l 98 (a_i (fun x => .long x.toInt64)))) (t_n 102 (t_l 99 (a_inv true 191 2 none)) (t_l 102 (a_lstore 8 2 4)))) (t_n 110 (t_n 107 (t_l 104 (a_iinc 8 6 1)) (t_l 107 (a_goto 50))) (t_n 112 (t_l 110 (a_lload 2 4)) (t_l 112 a_lret)))))))
set_option maxRecDepth 100000 in
theorem k_X11_mixLibrary (sc : Nat × (Nat → Int32)) (d : Nat) : ∀ pc, ev_Ok cX11_mixLibrary 8 [] RX11 lw_g lw_n (lw_q sc) vwCl false (ev_CO mt lw_g lw_n (lw_q sc) vwCl d) pc (g_X11_mixLibrary pc) := (ok_t_n (ok_t_n (ok_t_n (ok_t_n (ok_t_n (ok_t_l (ok_lload_n dX11_mixLibrary_0 rfl)) (ok_t_n (ok_t_l (ok_lstore dX11_mixLibrary_1)) (ok_t_l (ok_iconst dX11_mixLibrary_3 rfl)))) (ok_t_n (ok_t_n (ok_t_l (ok_istore dX11_mixLibrary_4)) (ok_t_l (ok_iload dX11_mixLibrary_6))) (ok_t_n (ok_t_l (ok_bipush dX11_mixLibrary_8 rfl)) (ok_t_l (ok_icmp_gt dX11_mixLibrary_10 rfl))))) (ok_t_n (ok_t_n (ok_t_l (ok_lload dX11_mixLibrary_13)) (ok_t_n (ok_t_l (ok_aload_n dX11_mixLibrary_15 rfl)) (ok_t_l (ok_iload_n dX11_mixLibrary_16 rfl)))) (ok_t_n (ok_t_n (ok_t_l (ok_iload dX11_mixLibrary_17)) (ok_t_l (ok_inv (run_V (y := 179) (n := 2) (ci := 11) dX11_mixLibrary_19 cz_179 gdG cc_179 ci_179 w_895 cm_179 cs_179 cd_179 cl_179 rfl rfl)))) (ok_t_n (ok_t_l (ok_i2l dX11_mixLibrary_22)) (ok_t_l (ok_inv (run_S (y := 191) (n := 2) dX11_mixLibrary_23 cz_191 gdG cc_191 ci_191 w_841 cm_191 cd_191 cl_191))))))) (ok_t_n (ok_t_n (ok_t_n (ok_t_l (ok_lstore dX11_mixLibrary_26)) (ok_t_n (ok_t_l (ok_iinc dX11_mixLibrary_28 rfl)) (ok_t_l (ok_goto dX11_mixLibrary_31 rfl)))) (ok_t_n (ok_t_n (ok_t_l (ok_lload dX11_mixLibrary_34)) (ok_t_l (ok_aload_n dX11_mixLibrary_36 rfl))) (ok_t_n (ok_t_l (ok_iload_n dX11_mixLibrary_37 rfl)) (ok_t_l (ok_inv (run_V (y := 183) (n := 1) (ci := 11) dX11_mixLibrary_38 cz_183 gdG cc_183 ci_183 w_896 cm_183 cs_183 cd_183 cl_183 rfl rfl)))))) (ok_t_n (ok_t_n (ok_t_l (ok_i2l dX11_mixLibrary_41)) (ok_t_n (ok_t_l (ok_inv (run_S (y := 191) (n := 2) dX11_mixLibrary_42 cz_191 gdG cc_191 ci_191 w_841 cm_191 cd_191 cl_191))) (ok_t_l (ok_lstore dX11_mixLibrary_45)))) (ok_t_n (ok_t_n (ok_t_l (ok_iconst dX11_mixLibrary_47 rfl)) (ok_t_l (ok_istore dX11_mixLibrary_48))) (ok_t_n (ok_t_l (ok_iload dX11_mixLibrary_50)) (ok_t_l (ok_bipush dX11_mixLibrary_52 rfl))))))) (ok_t_n (ok_t_n (ok_t_n (ok_t_n (ok_t_l (ok_icmp_ge dX11_mixLibrary_54 rfl)) (ok_t_n (ok_t_l (ok_iconst dX11_mixLibrary_57 rfl)) (ok_t_l (ok_istore dX11_mixLibrary_58)))) (ok_t_n (ok_t_n (ok_t_l (ok_iload dX11_mixLibrary_60)) (ok_t_l (ok_iconst dX11_mixLibrary_62 rfl))) (ok_t_n (ok_t_l (ok_icmp_gt dX11_mixLibrary_63 rfl)) (ok_t_l (ok_lload dX11_mixLibrary_66))))) (ok_t_n (ok_t_n (ok_t_l (ok_aload_n dX11_mixLibrary_68 rfl)) (ok_t_n (ok_t_l (ok_iload_n dX11_mixLibrary_69 rfl)) (ok_t_l (ok_iload dX11_mixLibrary_70)))) (ok_t_n (ok_t_n (ok_t_l (ok_iload dX11_mixLibrary_72)) (ok_t_l (ok_inv (run_V (y := 178) (n := 3) (ci := 11) dX11_mixLibrary_74 cz_178 gdG cc_178 ci_178 w_897 cm_178 cs_178 cd_178 cl_178 rfl rfl)))) (ok_t_n (ok_t_l (ok_i2l dX11_mixLibrary_77)) (ok_t_l (ok_inv (run_S (y := 191) (n := 2) dX11_mixLibrary_78 cz_191 gdG cc_191 ci_191 w_841 cm_191 cd_191 cl_191))))))) (ok_t_n (ok_t_n (ok_t_n (ok_t_l (ok_lstore dX11_mixLibrary_81)) (ok_t_n (ok_t_l (ok_iinc dX11_mixLibrary_83 rfl)) (ok_t_l (ok_goto dX11_mixLibrary_86 rfl)))) (ok_t_n (ok_t_n (ok_t_l (ok_lload dX11_mixLibrary_89)) (ok_t_l (ok_aload_n dX11_mixLibrary_91 rfl))) (ok_t_n (ok_t_l (ok_iload_n dX11_mixLibrary_92 rfl)) (ok_t_l (ok_iload dX11_mixLibrary_93))))) (ok_t_n (ok_t_n (ok_t_n (ok_t_l (ok_inv (run_V (y := 184) (n := 2) (ci := 11) dX11_mixLibrary_95 cz_184 gdG cc_184 ci_184 w_926 cm_184 cs_184 cd_184 cl_184 rfl rfl))) (ok_t_l (ok_i2l dX11_mixLibrary_98))) (ok_t_n (ok_t_l (ok_inv (run_S (y := 191) (n := 2) dX11_mixLibrary_99 cz_191 gdG cc_191 ci_191 w_841 cm_191 cd_191 cl_191))) (ok_t_l (ok_lstore dX11_mixLibrary_102)))) (ok_t_n (ok_t_n (ok_t_l (ok_iinc dX11_mixLibrary_104 rfl)) (ok_t_l (ok_goto dX11_mixLibrary_107 rfl))) (ok_t_n (ok_t_l (ok_lload dX11_mixLibrary_110)) (ok_t_l (ok_lreturn dX11_mixLibrary_112))))))))
theorem dX11_mix_0 : decode cX11_mix 0 = .ok (.lload_n 0, 1) := by decide +kernel
theorem dX11_mix_1 : decode cX11_mix 1 = .ok (.ldc2_w 451, 3) := by decide +kernel
theorem dX11_mix_4 : decode cX11_mix 4 = .ok (.lmul, 1) := by decide +kernel
theorem dX11_mix_5 : decode cX11_mix 5 = .ok (.lload_n 2, 1) := by decide +kernel
theorem dX11_mix_6 : decode cX11_mix 6 = .ok (.ladd, 1) := by decide +kernel
theorem dX11_mix_7 : decode cX11_mix 7 = .ok (.lreturn, 1) := by decide +kernel
def g_X11_mix : Nat → EA := (t_n 5 (t_n 1 (t_l 0 (a_lload 1 0)) (t_n 4 (t_l 1 (a_push 3 (.long 31))) (t_l 4 (a_ll (fun x y => .long (x * y)))))) (t_n 6 (t_l 5 (a_lload 1 2)) (t_n 7 (t_l 6 (a_ll (fun x y => .long (x + y)))) (t_l 7 a_lret))))
set_option maxRecDepth 100000 in
theorem k_X11_mix (sc : Nat × (Nat → Int32)) (d : Nat) : ∀ pc, ev_Ok cX11_mix 4 [] RX11 lw_g lw_n (lw_q sc) vwCl false (ev_CO mt lw_g lw_n (lw_q sc) vwCl d) pc (g_X11_mix pc) := (ok_t_n (ok_t_n (ok_t_l (ok_lload_n dX11_mix_0 rfl)) (ok_t_n (ok_t_l (ok_ldc2 dX11_mix_1 w_844)) (ok_t_l (ok_lmul dX11_mix_4)))) (ok_t_n (ok_t_l (ok_lload_n dX11_mix_5 rfl)) (ok_t_n (ok_t_l (ok_ladd dX11_mix_6)) (ok_t_l (ok_lreturn dX11_mix_7)))))
theorem dX11_isIn_0 : decode cX11_isIn 0 = .ok (.iload_n 0, 1) := by decide +kernel
theorem dX11_isIn_1 : decode cX11_isIn 1 = .ok (.ifCond .lt 12, 3) := by decide +kernel
theorem dX11_isIn_4 : decode cX11_isIn 4 = .ok (.iload_n 0, 1) := by decide +kernel
theorem dX11_isIn_5 : decode cX11_isIn 5 = .ok (.iload_n 1, 1) := by decide +kernel
theorem dX11_isIn_6 : decode cX11_isIn 6 = .ok (.if_icmp .ge 7, 3) := by decide +kernel
theorem dX11_isIn_9 : decode cX11_isIn 9 = .ok (.iconst 1, 1) := by decide +kernel
theorem dX11_isIn_10 : decode cX11_isIn 10 = .ok (.goto 4, 3) := by decide +kernel
theorem dX11_isIn_13 : decode cX11_isIn 13 = .ok (.iconst 0, 1) := by decide +kernel
theorem dX11_isIn_14 : decode cX11_isIn 14 = .ok (.ireturn, 1) := by decide +kernel
def g_X11_isIn : Nat → EA := (t_n 6 (t_n 4 (t_n 1 (t_l 0 (a_iload 1 0)) (t_l 1 (a_if 13 (fun x => decide (x < 0))))) (t_n 5 (t_l 4 (a_iload 1 0)) (t_l 5 (a_iload 1 1)))) (t_n 10 (t_n 9 (t_l 6 (a_ic 13 (fun x y => decide (y ≤ x)))) (t_l 9 (a_push 1 (.int 1)))) (t_n 13 (t_l 10 (a_goto 14)) (t_n 14 (t_l 13 (a_push 1 (.int 0))) (t_l 14 a_iret)))))
set_option maxRecDepth 100000 in
theorem k_X11_isIn (sc : Nat × (Nat → Int32)) (d : Nat) : ∀ pc, ev_Ok cX11_isIn 2 [] RX11 lw_g lw_n (lw_q sc) vwCl false (ev_CO mt lw_g lw_n (lw_q sc) vwCl d) pc (g_X11_isIn pc) := (ok_t_n (ok_t_n (ok_t_n (ok_t_l (ok_iload_n dX11_isIn_0 rfl)) (ok_t_l (ok_if_lt dX11_isIn_1 rfl))) (ok_t_n (ok_t_l (ok_iload_n dX11_isIn_4 rfl)) (ok_t_l (ok_iload_n dX11_isIn_5 rfl)))) (ok_t_n (ok_t_n (ok_t_l (ok_icmp_ge dX11_isIn_6 rfl)) (ok_t_l (ok_iconst dX11_isIn_9 rfl))) (ok_t_n (ok_t_l (ok_goto dX11_isIn_10 rfl)) (ok_t_n (ok_t_l (ok_iconst dX11_isIn_13 rfl)) (ok_t_l (ok_ireturn dX11_isIn_14))))))
theorem dX11_isName_0 : decode cX11_isName 0 = .ok (.iload_n 0, 1) := by decide +kernel
theorem dX11_isName_1 : decode cX11_isName 1 = .ok (.ifCond .lt 13, 3) := by decide +kernel
theorem dX11_isName_4 : decode cX11_isName 4 = .ok (.iload_n 0, 1) := by decide +kernel
theorem dX11_isName_5 : decode cX11_isName 5 = .ok (.bipush 20, 2) := by decide +kernel
theorem dX11_isName_7 : decode cX11_isName 7 = .ok (.if_icmp .ge 7, 3) := by decide +kernel
theorem dX11_isName_10 : decode cX11_isName 10 = .ok (.iconst 1, 1) := by decide +kernel
theorem dX11_isName_11 : decode cX11_isName 11 = .ok (.goto 4, 3) := by decide +kernel
theorem dX11_isName_14 : decode cX11_isName 14 = .ok (.iconst 0, 1) := by decide +kernel
theorem dX11_isName_15 : decode cX11_isName 15 = .ok (.ireturn, 1) := by decide +kernel
def g_X11_isName : Nat → EA := (t_n 7 (t_n 4 (t_n 1 (t_l 0 (a_iload 1 0)) (t_l 1 (a_if 14 (fun x => decide (x < 0))))) (t_n 5 (t_l 4 (a_iload 1 0)) (t_l 5 (a_push 2 (.int 20))))) (t_n 11 (t_n 10 (t_l 7 (a_ic 14 (fun x y => decide (y ≤ x)))) (t_l 10 (a_push 1 (.int 1)))) (t_n 14 (t_l 11 (a_goto 15)) (t_n 15 (t_l 14 (a_push 1 (.int 0))) (t_l 15 a_iret)))))
set_option maxRecDepth 100000 in
theorem k_X11_isName (sc : Nat × (Nat → Int32)) (d : Nat) : ∀ pc, ev_Ok cX11_isName 1 [] RX11 lw_g lw_n (lw_q sc) vwCl false (ev_CO mt lw_g lw_n (lw_q sc) vwCl d) pc (g_X11_isName pc) := (ok_t_n (ok_t_n (ok_t_n (ok_t_l (ok_iload_n dX11_isName_0 rfl)) (ok_t_l (ok_if_lt dX11_isName_1 rfl))) (ok_t_n (ok_t_l (ok_iload_n dX11_isName_4 rfl)) (ok_t_l (ok_bipush dX11_isName_5 rfl)))) (ok_t_n (ok_t_n (ok_t_l (ok_icmp_ge dX11_isName_7 rfl)) (ok_t_l (ok_iconst dX11_isName_10 rfl))) (ok_t_n (ok_t_l (ok_goto dX11_isName_11 rfl)) (ok_t_n (ok_t_l (ok_iconst dX11_isName_14 rfl)) (ok_t_l (ok_ireturn dX11_isName_15))))))
theorem dX11_isAlign_0 : decode cX11_isAlign 0 = .ok (.iload_n 0, 1) := by decide +kernel
theorem dX11_isAlign_1 : decode cX11_isAlign 1 = .ok (.iconst 1, 1) := by decide +kernel
theorem dX11_isAlign_2 : decode cX11_isAlign 2 = .ok (.if_icmp .eq 25, 3) := by decide +kernel
theorem dX11_isAlign_5 : decode cX11_isAlign 5 = .ok (.iload_n 0, 1) := by decide +kernel
theorem dX11_isAlign_6 : decode cX11_isAlign 6 = .ok (.iconst 2, 1) := by decide +kernel
theorem dX11_isAlign_7 : decode cX11_isAlign 7 = .ok (.if_icmp .eq 20, 3) := by decide +kernel
theorem dX11_isAlign_10 : decode cX11_isAlign 10 = .ok (.iload_n 0, 1) := by decide +kernel
theorem dX11_isAlign_11 : decode cX11_isAlign 11 = .ok (.iconst 4, 1) := by decide +kernel
theorem dX11_isAlign_12 : decode cX11_isAlign 12 = .ok (.if_icmp .eq 15, 3) := by decide +kernel
theorem dX11_isAlign_15 : decode cX11_isAlign 15 = .ok (.iload_n 0, 1) := by decide +kernel
theorem dX11_isAlign_16 : decode cX11_isAlign 16 = .ok (.bipush 8, 2) := by decide +kernel
theorem dX11_isAlign_18 : decode cX11_isAlign 18 = .ok (.if_icmp .eq 9, 3) := by decide +kernel
theorem dX11_isAlign_21 : decode cX11_isAlign 21 = .ok (.iload_n 0, 1) := by decide +kernel
theorem dX11_isAlign_22 : decode cX11_isAlign 22 = .ok (.bipush 16, 2) := by decide +kernel
theorem dX11_isAlign_24 : decode cX11_isAlign 24 = .ok (.if_icmp .ne 7, 3) := by decide +kernel
theorem dX11_isAlign_27 : decode cX11_isAlign 27 = .ok (.iconst 1, 1) := by decide +kernel
theorem dX11_isAlign_28 : decode cX11_isAlign 28 = .ok (.goto 4, 3) := by decide +kernel
theorem dX11_isAlign_31 : decode cX11_isAlign 31 = .ok (.iconst 0, 1) := by decide +kernel
theorem dX11_isAlign_32 : decode cX11_isAlign 32 = .ok (.ireturn, 1) := by decide +kernel
def g_X11_isAlign : Nat → EA := (t_n 15 (t_n 6 (t_n 2 (t_n 1 (t_l 0 (a_iload 1 0)) (t_l 1 (a_push 1 (.int 1)))) (t_n 5 (t_l 2 (a_ic 27 (fun x y => decide (x = y)))) (t_l 5 (a_iload 1 0)))) (t_n 10 (t_n 7 (t_l 6 (a_push 1 (.int 2))) (t_l 7 (a_ic 27 (fun x y => decide (x = y))))) (t_n 11 (t_l 10 (a_iload 1 0)) (t_n 12 (t_l 11 (a_push 1 (.int 4))) (t_l 12 (a_ic 27 (fun x y => decide (x = y)))))))) (t_n 24 (t_n 18 (t_n 16 (t_l 15 (a_iload 1 0)) (t_l 16 (a_push 2 (.int 8)))) (t_n 21 (t_l 18 (a_ic 27 (fun x y => decide (x = y)))) (t_n 22 (t_l 21 (a_iload 1 0)) (t_l 22 (a_push 2 (.int 16)))))) (t_n 28 (t_n 27 (t_l 24 (a_ic 31 (fun x y => !decide (x = y)))) (t_l 27 (a_push 1 (.int 1)))) (t_n 31 (t_l 28 (a_goto 32)) (t_n 32 (t_l 31 (a_push 1 (.int 0))) (t_l 32 a_iret))))))
set_option maxRecDepth 100000 in
theorem k_X11_isAlign (sc : Nat × (Nat → Int32)) (d : Nat) : ∀ pc, ev_Ok cX11_isAlign 1 [] RX11 lw_g lw_n (lw_q sc) vwCl false (ev_CO mt lw_g lw_n (lw_q sc) vwCl d) pc (g_X11_isAlign pc) := (ok_t_n (ok_t_n (ok_t_n (ok_t_n (ok_t_l (ok_iload_n dX11_isAlign_0 rfl)) (ok_t_l (ok_iconst dX11_isAlign_1 rfl))) (ok_t_n (ok_t_l (ok_icmp_eq dX11_isAlign_2 rfl)) (ok_t_l (ok_iload_n dX11_isAlign_5 rfl)))) (ok_t_n (ok_t_n (ok_t_l (ok_iconst dX11_isAlign_6 rfl)) (ok_t_l (ok_icmp_eq dX11_isAlign_7 rfl))) (ok_t_n (ok_t_l (ok_iload_n dX11_isAlign_10 rfl)) (ok_t_n (ok_t_l (ok_iconst dX11_isAlign_11 rfl)) (ok_t_l (ok_icmp_eq dX11_isAlign_12 rfl)))))) (ok_t_n (ok_t_n (ok_t_n (ok_t_l (ok_iload_n dX11_isAlign_15 rfl)) (ok_t_l (ok_bipush dX11_isAlign_16 rfl))) (ok_t_n (ok_t_l (ok_icmp_eq dX11_isAlign_18 rfl)) (ok_t_n (ok_t_l (ok_iload_n dX11_isAlign_21 rfl)) (ok_t_l (ok_bipush dX11_isAlign_22 rfl))))) (ok_t_n (ok_t_n (ok_t_l (ok_icmp_ne dX11_isAlign_24 rfl)) (ok_t_l (ok_iconst dX11_isAlign_27 rfl))) (ok_t_n (ok_t_l (ok_goto dX11_isAlign_28 rfl)) (ok_t_n (ok_t_l (ok_iconst dX11_isAlign_31 rfl)) (ok_t_l (ok_ireturn dX11_isAlign_32)))))))
theorem dX11_isReach_0 : decode cX11_isReach 0 = .ok (.iload_n 0, 1) := by decide +kernel
theorem dX11_isReach_1 : decode cX11_isReach 1 = .ok (.iconst 1, 1) := by decide +kernel
theorem dX11_isReach_2 : decode cX11_isReach 2 = .ok (.if_icmp .lt 14, 3) := by decide +kernel
theorem dX11_isReach_5 : decode cX11_isReach 5 = .ok (.iload_n 0, 1) := by decide +kernel
theorem dX11_isReach_6 : decode cX11_isReach 6 = .ok (.sipush 500, 3) := by decide +kernel
theorem dX11_isReach_9 : decode cX11_isReach 9 = .ok (.if_icmp .gt 7, 3) := by decide +kernel
theorem dX11_isReach_12 : decode cX11_isReach 12 = .ok (.iconst 1, 1) := by decide +kernel
theorem dX11_isReach_13 : decode cX11_isReach 13 = .ok (.goto 4, 3) := by decide +kernel
theorem dX11_isReach_16 : decode cX11_isReach 16 = .ok (.iconst 0, 1) := by decide +kernel
theorem dX11_isReach_17 : decode cX11_isReach 17 = .ok (.ireturn, 1) := by decide +kernel
def g_X11_isReach : Nat → EA := (t_n 9 (t_n 2 (t_n 1 (t_l 0 (a_iload 1 0)) (t_l 1 (a_push 1 (.int 1)))) (t_n 5 (t_l 2 (a_ic 16 (fun x y => decide (x < y)))) (t_n 6 (t_l 5 (a_iload 1 0)) (t_l 6 (a_push 3 (.int 500)))))) (t_n 13 (t_n 12 (t_l 9 (a_ic 16 (fun x y => decide (y < x)))) (t_l 12 (a_push 1 (.int 1)))) (t_n 16 (t_l 13 (a_goto 17)) (t_n 17 (t_l 16 (a_push 1 (.int 0))) (t_l 17 a_iret)))))
set_option maxRecDepth 100000 in
theorem k_X11_isReach (sc : Nat × (Nat → Int32)) (d : Nat) : ∀ pc, ev_Ok cX11_isReach 1 [] RX11 lw_g lw_n (lw_q sc) vwCl false (ev_CO mt lw_g lw_n (lw_q sc) vwCl d) pc (g_X11_isReach pc) := (ok_t_n (ok_t_n (ok_t_n (ok_t_l (ok_iload_n dX11_isReach_0 rfl)) (ok_t_l (ok_iconst dX11_isReach_1 rfl))) (ok_t_n (ok_t_l (ok_icmp_lt dX11_isReach_2 rfl)) (ok_t_n (ok_t_l (ok_iload_n dX11_isReach_5 rfl)) (ok_t_l (ok_sipush dX11_isReach_6 rfl))))) (ok_t_n (ok_t_n (ok_t_l (ok_icmp_gt dX11_isReach_9 rfl)) (ok_t_l (ok_iconst dX11_isReach_12 rfl))) (ok_t_n (ok_t_l (ok_goto dX11_isReach_13 rfl)) (ok_t_n (ok_t_l (ok_iconst dX11_isReach_16 rfl)) (ok_t_l (ok_ireturn dX11_isReach_17))))))
theorem dX11_hasBit_0 : decode cX11_hasBit 0 = .ok (.iload_n 0, 1) := by decide +kernel
theorem dX11_hasBit_1 : decode cX11_hasBit 1 = .ok (.iload_n 1, 1) := by decide +kernel
theorem dX11_hasBit_2 : decode cX11_hasBit 2 = .ok (.ishr, 1) := by decide +kernel
theorem dX11_hasBit_3 : decode cX11_hasBit 3 = .ok (.iconst 1, 1) := by decide +kernel
theorem dX11_hasBit_4 : decode cX11_hasBit 4 = .ok (.iand, 1) := by decide +kernel
theorem dX11_hasBit_5 : decode cX11_hasBit 5 = .ok (.ifCond .eq 7, 3) := by decide +kernel
theorem dX11_hasBit_8 : decode cX11_hasBit 8 = .ok (.iconst 1, 1) := by decide +kernel
theorem dX11_hasBit_9 : decode cX11_hasBit 9 = .ok (.goto 4, 3) := by decide +kernel
theorem dX11_hasBit_12 : decode cX11_hasBit 12 = .ok (.iconst 0, 1) := by decide +kernel
theorem dX11_hasBit_13 : decode cX11_hasBit 13 = .ok (.ireturn, 1) := by decide +kernel
def g_X11_hasBit : Nat → EA := (t_n 5 (t_n 2 (t_n 1 (t_l 0 (a_iload 1 0)) (t_l 1 (a_iload 1 1))) (t_n 3 (t_l 2 (a_ii 1 (fun x y => x >>> (y &&& 31)))) (t_n 4 (t_l 3 (a_push 1 (.int 1))) (t_l 4 (a_ii 1 (fun x y => x &&& y)))))) (t_n 9 (t_n 8 (t_l 5 (a_if 12 (fun x => decide (x = 0)))) (t_l 8 (a_push 1 (.int 1)))) (t_n 12 (t_l 9 (a_goto 13)) (t_n 13 (t_l 12 (a_push 1 (.int 0))) (t_l 13 a_iret)))))
set_option maxRecDepth 100000 in
theorem k_X11_hasBit (sc : Nat × (Nat → Int32)) (d : Nat) : ∀ pc, ev_Ok cX11_hasBit 2 [] RX11 lw_g lw_n (lw_q sc) vwCl false (ev_CO mt lw_g lw_n (lw_q sc) vwCl d) pc (g_X11_hasBit pc) := (ok_t_n (ok_t_n (ok_t_n (ok_t_l (ok_iload_n dX11_hasBit_0 rfl)) (ok_t_l (ok_iload_n dX11_hasBit_1 rfl))) (ok_t_n (ok_t_l (ok_ishr dX11_hasBit_2)) (ok_t_n (ok_t_l (ok_iconst dX11_hasBit_3 rfl)) (ok_t_l (ok_iand dX11_hasBit_4))))) (ok_t_n (ok_t_n (ok_t_l (ok_if_eq dX11_hasBit_5 rfl)) (ok_t_l (ok_iconst dX11_hasBit_8 rfl))) (ok_t_n (ok_t_l (ok_goto dX11_hasBit_9 rfl)) (ok_t_n (ok_t_l (ok_iconst dX11_hasBit_12 rfl)) (ok_t_l (ok_ireturn dX11_hasBit_13))))))
theorem dX11_roundUp_0 : decode cX11_roundUp 0 = .ok (.iload_n 0, 1) := by decide +kernel
theorem dX11_roundUp_1 : decode cX11_roundUp 1 = .ok (.iload_n 1, 1) := by decide +kernel
theorem dX11_roundUp_2 : decode cX11_roundUp 2 = .ok (.iadd, 1) := by decide +kernel
theorem dX11_roundUp_3 : decode cX11_roundUp 3 = .ok (.iconst 1, 1) := by decide +kernel
theorem dX11_roundUp_4 : decode cX11_roundUp 4 = .ok (.isub, 1) := by decide +kernel
theorem dX11_roundUp_5 : decode cX11_roundUp 5 = .ok (.iload_n 1, 1) := by decide +kernel
theorem dX11_roundUp_6 : decode cX11_roundUp 6 = .ok (.ineg, 1) := by decide +kernel
theorem dX11_roundUp_7 : decode cX11_roundUp 7 = .ok (.iand, 1) := by decide +kernel
theorem dX11_roundUp_8 : decode cX11_roundUp 8 = .ok (.ireturn, 1) := by decide +kernel
def g_X11_roundUp : Nat → EA := (t_n 4 (t_n 2 (t_n 1 (t_l 0 (a_iload 1 0)) (t_l 1 (a_iload 1 1))) (t_n 3 (t_l 2 (a_ii 1 (fun x y => x + y))) (t_l 3 (a_push 1 (.int 1))))) (t_n 6 (t_n 5 (t_l 4 (a_ii 1 (fun x y => x - y))) (t_l 5 (a_iload 1 1))) (t_n 7 (t_l 6 (a_i (fun x => .int (-x)))) (t_n 8 (t_l 7 (a_ii 1 (fun x y => x &&& y))) (t_l 8 a_iret)))))
set_option maxRecDepth 100000 in
theorem k_X11_roundUp (sc : Nat × (Nat → Int32)) (d : Nat) : ∀ pc, ev_Ok cX11_roundUp 2 [] RX11 lw_g lw_n (lw_q sc) vwCl false (ev_CO mt lw_g lw_n (lw_q sc) vwCl d) pc (g_X11_roundUp pc) := (ok_t_n (ok_t_n (ok_t_n (ok_t_l (ok_iload_n dX11_roundUp_0 rfl)) (ok_t_l (ok_iload_n dX11_roundUp_1 rfl))) (ok_t_n (ok_t_l (ok_iadd dX11_roundUp_2)) (ok_t_l (ok_iconst dX11_roundUp_3 rfl)))) (ok_t_n (ok_t_n (ok_t_l (ok_isub dX11_roundUp_4)) (ok_t_l (ok_iload_n dX11_roundUp_5 rfl))) (ok_t_n (ok_t_l (ok_ineg dX11_roundUp_6)) (ok_t_n (ok_t_l (ok_iand dX11_roundUp_7)) (ok_t_l (ok_ireturn dX11_roundUp_8))))))
theorem dX11_addReference_0 : decode cX11_addReference 0 = .ok (.iload 5, 2) := by decide +kernel
theorem dX11_addReference_2 : decode cX11_addReference 2 = .ok (.ifCond .ne 19, 3) := by decide +kernel
theorem dX11_addReference_5 : decode cX11_addReference 5 = .ok (.aload_n 0, 1) := by decide +kernel
theorem dX11_addReference_6 : decode cX11_addReference 6 = .ok (.getfield 12, 3) := by decide +kernel
theorem dX11_addReference_9 : decode cX11_addReference 9 = .ok (.aload_n 0, 1) := by decide +kernel
theorem dX11_addReference_10 : decode cX11_addReference 10 = .ok (.getfield 19, 3) := by decide +kernel
theorem dX11_addReference_13 : decode cX11_addReference 13 = .ok (.iload_n 1, 1) := by decide +kernel
theorem dX11_addReference_14 : decode cX11_addReference 14 = .ok (.invokevirtual 125, 3) := by decide +kernel
theorem dX11_addReference_17 : decode cX11_addReference 17 = .ok (.iload_n 3, 1) := by decide +kernel
theorem dX11_addReference_18 : decode cX11_addReference 18 = .ok (.invokevirtual 453, 3) := by decide +kernel
theorem dX11_addReference_21 : decode cX11_addReference 21 = .ok (.aload_n 0, 1) := by decide +kernel
theorem dX11_addReference_22 : decode cX11_addReference 22 = .ok (.getfield 19, 3) := by decide +kernel
theorem dX11_addReference_25 : decode cX11_addReference 25 = .ok (.iload_n 1, 1) := by decide +kernel
theorem dX11_addReference_26 : decode cX11_addReference 26 = .ok (.iload_n 2, 1) := by decide +kernel
theorem dX11_addReference_27 : decode cX11_addReference 27 = .ok (.iload_n 3, 1) := by decide +kernel
theorem dX11_addReference_28 : decode cX11_addReference 28 = .ok (.iload 4, 2) := by decide +kernel
theorem dX11_addReference_30 : decode cX11_addReference 30 = .ok (.iload 5, 2) := by decide +kernel
theorem dX11_addReference_32 : decode cX11_addReference 32 = .ok (.invokevirtual 111, 3) := by decide +kernel
theorem dX11_addReference_35 : decode cX11_addReference 35 = .ok (.ireturn, 1) := by decide +kernel
def g_X11_addReference : Nat → EA := (t_n 18 (t_n 9 (t_n 5 (t_n 2 (t_l 0 (a_iload 2 5)) (t_l 2 (a_if 21 (fun x => !decide (x = 0))))) (t_n 6 (t_l 5 (a_aload 1 0)) (t_l 6 (a_getf 11 0)))) (t_n 13 (t_n 10 (t_l 9 (a_aload 1 0)) (t_l 10 (a_getf 11 1))) (t_n 14 (t_l 13 (a_iload 1 1)) (t_n 17 (t_l 14 (a_inv true 123 2 (some 8))) (t_l 17 (a_iload 1 3)))))) (t_n 27 (t_n 22 (t_n 21 (t_l 18 (a_inv true 94 3 (some 6))) (t_l 21 (a_aload 1 0))) (t_n 25 (t_l 22 (a_getf 11 1)) (t_n 26 (t_l 25 (a_iload 1 1)) (t_l 26 (a_iload 1 2))))) (t_n 30 (t_n 28 (t_l 27 (a_iload 1 3)) (t_l 28 (a_iload 2 4))) (t_n 32 (t_l 30 (a_iload 2 5)) (t_n 35 (t_l 32 (a_inv true 122 6 (some 8))) (t_l 35 a_iret))))))
set_option maxRecDepth 100000 in
theorem k_X11_addReference (sc : Nat × (Nat → Int32)) (d : Nat) : ∀ pc, ev_Ok cX11_addReference 6 [] RX11 lw_g lw_n (lw_q sc) vwCl false (ev_CO mt lw_g lw_n (lw_q sc) vwCl d) pc (g_X11_addReference pc) := (ok_t_n (ok_t_n (ok_t_n (ok_t_n (ok_t_l (ok_iload dX11_addReference_0)) (ok_t_l (ok_if_ne dX11_addReference_2 rfl))) (ok_t_n (ok_t_l (ok_aload_n dX11_addReference_5 rfl)) (ok_t_l (ok_getfield dX11_addReference_6 (ci := 11) (kf := 0) rfl inGX11 (by decide) w_1306)))) (ok_t_n (ok_t_n (ok_t_l (ok_aload_n dX11_addReference_9 rfl)) (ok_t_l (ok_getfield dX11_addReference_10 (ci := 11) (kf := 1) rfl inGX11 (by decide) w_1307))) (ok_t_n (ok_t_l (ok_iload_n dX11_addReference_13 rfl)) (ok_t_n (ok_t_l (ok_inv (run_V (y := 123) (n := 1) (ci := 8) dX11_addReference_14 cz_123 gdG cc_123 ci_123 w_621 cm_123 cs_123 cd_123 cl_123 rfl rfl))) (ok_t_l (ok_iload_n dX11_addReference_17 rfl)))))) (ok_t_n (ok_t_n (ok_t_n (ok_t_l (ok_inv (run_V (y := 94) (n := 2) (ci := 6) dX11_addReference_18 cz_94 gdG cc_94 ci_94 w_1465 cm_94 cs_94 cd_94 cl_94 rfl rfl))) (ok_t_l (ok_aload_n dX11_addReference_21 rfl))) (ok_t_n (ok_t_l (ok_getfield dX11_addReference_22 (ci := 11) (kf := 1) rfl inGX11 (by decide) w_1307)) (ok_t_n (ok_t_l (ok_iload_n dX11_addReference_25 rfl)) (ok_t_l (ok_iload_n dX11_addReference_26 rfl))))) (ok_t_n (ok_t_n (ok_t_l (ok_iload_n dX11_addReference_27 rfl)) (ok_t_l (ok_iload dX11_addReference_28))) (ok_t_n (ok_t_l (ok_iload dX11_addReference_30)) (ok_t_n (ok_t_l (ok_inv (run_V (y := 122) (n := 5) (ci := 8) dX11_addReference_32 cz_122 gdG cc_122 ci_122 w_1451 cm_122 cs_122 cd_122 cl_122 rfl rfl))) (ok_t_l (ok_ireturn dX11_addReference_35)))))))
theorem dX12_init_0 : decode cX12_init 0 = .ok (.aload_n 0, 1) := by decide +kernel
theorem dX12_init_1 : decode cX12_init 1 = .ok (.invokespecial 1, 3) := by decide +kernel
theorem dX12_init_4 : decode cX12_init 4 = .ok (.aload_n 0, 1) := by decide +kernel
theorem dX12_init_5 : decode cX12_init 5 = .ok (.new 7, 3) := by decide +kernel
theorem dX12_init_8 : decode cX12_init 8 = .ok (.dup, 1) := by decide +kernel
theorem dX12_init_9 : decode cX12_init 9 = .ok (.invokespecial 9, 3) := by decide +kernel
theorem dX12_init_12 : decode cX12_init 12 = .ok (.putfield 10, 3) := by decide +kernel
theorem dX12_init_15 : decode cX12_init 15 = .ok (.aload_n 0, 1) := by decide +kernel
theorem dX12_init_16 : decode cX12_init 16 = .ok (.iconst 0, 1) := by decide +kernel
theorem dX12_init_17 : decode cX12_init 17 = .ok (.anewarray 16, 3) := by decide +kernel
theorem dX12_init_20 : decode cX12_init 20 = .ok (.putfield 18, 3) := by decide +kernel
theorem dX12_init_23 : decode cX12_init 23 = .ok (.aload_n 0, 1) := by decide +kernel
theorem dX12_init_24 : decode cX12_init 24 = .ok (.iconst 0, 1) := by decide +kernel
theorem dX12_init_25 : decode cX12_init 25 = .ok (.anewarray 22, 3) := by decide +kernel
theorem dX12_init_28 : decode cX12_init 28 = .ok (.putfield 23, 3) := by decide +kernel
theorem dX12_init_31 : decode cX12_init 31 = .ok (.aload_n 0, 1) := by decide +kernel
theorem dX12_init_32 : decode cX12_init 32 = .ok (.iconst 0, 1) := by decide +kernel
theorem dX12_init_33 : decode cX12_init 33 = .ok (.anewarray 16, 3) := by decide +kernel
theorem dX12_init_36 : decode cX12_init 36 = .ok (.putfield 27, 3) := by decide +kernel
theorem dX12_init_39 : decode cX12_init 39 = .ok (.aload_n 0, 1) := by decide +kernel
theorem dX12_init_40 : decode cX12_init 40 = .ok (.iconst 0, 1) := by decide +kernel
theorem dX12_init_41 : decode cX12_init 41 = .ok (.anewarray 16, 3) := by decide +kernel
theorem dX12_init_44 : decode cX12_init 44 = .ok (.putfield 30, 3) := by decide +kernel
theorem dX12_init_47 : decode cX12_init 47 = .ok (.aload_n 0, 1) := by decide +kernel
theorem dX12_init_48 : decode cX12_init 48 = .ok (.bipush 40, 2) := by decide +kernel
theorem dX12_init_50 : decode cX12_init 50 = .ok (.putfield 33, 3) := by decide +kernel
theorem dX12_init_53 : decode cX12_init 53 = .ok (.aload_n 0, 1) := by decide +kernel
theorem dX12_init_54 : decode cX12_init 54 = .ok (.sipush 9999, 3) := by decide +kernel
theorem dX12_init_57 : decode cX12_init 57 = .ok (.putfield 37, 3) := by decide +kernel
theorem dX12_init_60 : decode cX12_init 60 = .ok (.aload_n 0, 1) := by decide +kernel
theorem dX12_init_61 : decode cX12_init 61 = .ok (.iconst 0, 1) := by decide +kernel
theorem dX12_init_62 : decode cX12_init 62 = .ok (.newarray .int, 2) := by decide +kernel
theorem dX12_init_64 : decode cX12_init 64 = .ok (.putfield 40, 3) := by decide +kernel
theorem dX12_init_67 : decode cX12_init 67 = .ok (.aload_n 0, 1) := by decide +kernel
theorem dX12_init_68 : decode cX12_init 68 = .ok (.bipush 20, 2) := by decide +kernel
theorem dX12_init_70 : decode cX12_init 70 = .ok (.newarray .int, 2) := by decide +kernel
theorem dX12_init_72 : decode cX12_init 72 = .ok (.putfield 43, 3) := by decide +kernel
theorem dX12_init_75 : decode cX12_init 75 = .ok (.aload_n 0, 1) := by decide +kernel
theorem dX12_init_76 : decode cX12_init 76 = .ok (.bipush 20, 2) := by decide +kernel
theorem dX12_init_78 : decode cX12_init 78 = .ok (.newarray .int, 2) := by decide +kernel
theorem dX12_init_80 : decode cX12_init 80 = .ok (.putfield 46, 3) := by decide +kernel
theorem dX12_init_83 : decode cX12_init 83 = .ok (.aload_n 0, 1) := by decide +kernel
theorem dX12_init_84 : decode cX12_init 84 = .ok (.iconst 0, 1) := by decide +kernel
theorem dX12_init_85 : decode cX12_init 85 = .ok (.newarray .boolean, 2) := by decide +kernel
theorem dX12_init_87 : decode cX12_init 87 = .ok (.putfield 49, 3) := by decide +kernel
theorem dX12_init_90 : decode cX12_init 90 = .ok (.aload_n 0, 1) := by decide +kernel
theorem dX12_init_91 : decode cX12_init 91 = .ok (.bipush 20, 2) := by decide +kernel
theorem dX12_init_93 : decode cX12_init 93 = .ok (.newarray .boolean, 2) := by decide +kernel
theorem dX12_init_95 : decode cX12_init 95 = .ok (.putfield 53, 3) := by decide +kernel
theorem dX12_init_98 : decode cX12_init 98 = .ok (.aload_n 0, 1) := by decide +kernel
theorem dX12_init_99 : decode cX12_init 99 = .ok (.iconst 0, 1) := by decide +kernel
theorem dX12_init_100 : decode cX12_init 100 = .ok (.newarray .int, 2) := by decide +kernel
theorem dX12_init_102 : decode cX12_init 102 = .ok (.putfield 56, 3) := by decide +kernel
theorem dX12_init_105 : decode cX12_init 105 = .ok (.aload_n 0, 1) := by decide +kernel
theorem dX12_init_106 : decode cX12_init 106 = .ok (.iconst 0, 1) := by decide +kernel
theorem dX12_init_107 : decode cX12_init 107 = .ok (.anewarray 59, 3) := by decide +kernel
theorem dX12_init_110 : decode cX12_init 110 = .ok (.putfield 60, 3) := by decide +kernel
theorem dX12_init_113 : decode cX12_init 113 = .ok (.aload_n 0, 1) := by decide +kernel
theorem dX12_init_114 : decode cX12_init 114 = .ok (.bipush 20, 2) := by decide +kernel
theorem dX12_init_116 : decode cX12_init 116 = .ok (.newarray .int, 2) := by decide +kernel
theorem dX12_init_118 : decode cX12_init 118 = .ok (.putfield 64, 3) := by decide +kernel
theorem dX12_init_121 : decode cX12_init 121 = .ok (.aload_n 0, 1) := by decide +kernel
theorem dX12_init_122 : decode cX12_init 122 = .ok (.iconst 0, 1) := by decide +kernel
theorem dX12_init_123 : decode cX12_init 123 = .ok (.anewarray 16, 3) := by decide +kernel
theorem dX12_init_126 : decode cX12_init 126 = .ok (.putfield 67, 3) := by decide +kernel
theorem dX12_init_129 : decode cX12_init 129 = .ok (.aload_n 0, 1) := by decide +kernel
theorem dX12_init_130 : decode cX12_init 130 = .ok (.iconst 0, 1) := by decide +kernel
theorem dX12_init_131 : decode cX12_init 131 = .ok (.newarray .int, 2) := by decide +kernel
theorem dX12_init_133 : decode cX12_init 133 = .ok (.putfield 70, 3) := by decide +kernel
theorem dX12_init_136 : decode cX12_init 136 = .ok (.aload_n 0, 1) := by decide +kernel
theorem dX12_init_137 : decode cX12_init 137 = .ok (.bipush 20, 2) := by decide +kernel
theorem dX12_init_139 : decode cX12_init 139 = .ok (.newarray .int, 2) := by decide +kernel
theorem dX12_init_141 : decode cX12_init 141 = .ok (.putfield 73, 3) := by decide +kernel
theorem dX12_init_144 : decode cX12_init 144 = .ok (.aload_n 0, 1) := by decide +kernel
theorem dX12_init_145 : decode cX12_init 145 = .ok (.aload_n 1, 1) := by decide +kernel
theorem dX12_init_146 : decode cX12_init 146 = .ok (.putfield 76, 3) := by decide +kernel
theorem dX12_init_149 : decode cX12_init 149 = .ok (.aload_n 0, 1) := by decide +kernel
theorem dX12_init_150 : decode cX12_init 150 = .ok (.iload_n 2, 1) := by decide +kernel
theorem dX12_init_151 : decode cX12_init 151 = .ok (.putfield 79, 3) := by decide +kernel
theorem dX12_init_154 : decode cX12_init 154 = .ok (.return_, 1) := by decide +kernel
def g_X12_init : Nat → EA := (t_n 80 (t_n 40 (t_n 20 (t_n 9 (t_n 4 (t_n 1 (t_l 0 (a_aload 1 0)) (t_l 1 a_objI)) (t_n 5 (t_l 4 (a_aload 1 0)) (t_n 8 (t_l 5 (a_new 11 9 [.null, .null, .null, .null, .null, .null, .null, .int 0, .int 0])) (t_l 8 a_dup)))) (t_n 15 (t_n 12 (t_l 9 (a_inv false 158 1 (some 11))) (t_l 12 (a_putf 9 12 0))) (t_n 16 (t_l 15 (a_aload 1 0)) (t_n 17 (t_l 16 (a_push 1 (.int 0))) (t_l 17 (a_newq 3)))))) (t_n 31 (t_n 24 (t_n 23 (t_l 20 (a_putf 9 12 4)) (t_l 23 (a_aload 1 0))) (t_n 25 (t_l 24 (a_push 1 (.int 0))) (t_n 28 (t_l 25 (a_newq 4)) (t_l 28 (a_putf 9 12 5))))) (t_n 33 (t_n 32 (t_l 31 (a_aload 1 0)) (t_l 32 (a_push 1 (.int 0)))) (t_n 36 (t_l 33 (a_newq 3)) (t_n 39 (t_l 36 (a_putf 9 12 6)) (t_l 39 (a_aload 1 0))))))) (t_n 61 (t_n 50 (t_n 44 (t_n 41 (t_l 40 (a_push 1 (.int 0))) (t_l 41 (a_newq 3))) (t_n 47 (t_l 44 (a_putf 9 12 7)) (t_n 48 (t_l 47 (a_aload 1 0)) (t_l 48 (a_push 2 (.int 40)))))) (t_n 54 (t_n 53 (t_l 50 (a_putf 0 12 8)) (t_l 53 (a_aload 1 0))) (t_n 57 (t_l 54 (a_push 3 (.int 9999))) (t_n 60 (t_l 57 (a_putf 0 12 9)) (t_l 60 (a_aload 1 0)))))) (t_n 70 (t_n 64 (t_n 62 (t_l 61 (a_push 1 (.int 0))) (t_l 62 (a_newa 0))) (t_n 67 (t_l 64 (a_putf 9 12 10)) (t_n 68 (t_l 67 (a_aload 1 0)) (t_l 68 (a_push 2 (.int 20)))))) (t_n 75 (t_n 72 (t_l 70 (a_newa 0)) (t_l 72 (a_putf 9 12 11))) (t_n 76 (t_l 75 (a_aload 1 0)) (t_n 78 (t_l 76 (a_push 2 (.int 20))) (t_l 78 (a_newa 0)))))))) (t_n 118 (t_n 99 (t_n 90 (t_n 84 (t_n 83 (t_l 80 (a_putf 9 12 12)) (t_l 83 (a_aload 1 0))) (t_n 85 (t_l 84 (a_push 1 (.int 0))) (t_n 87 (t_l 85 (a_newa 1)) (t_l 87 (a_putf 9 12 13))))) (t_n 93 (t_n 91 (t_l 90 (a_aload 1 0)) (t_l 91 (a_push 2 (.int 20)))) (t_n 95 (t_l 93 (a_newa 1)) (t_n 98 (t_l 95 (a_putf 9 12 14)) (t_l 98 (a_aload 1 0)))))) (t_n 107 (t_n 102 (t_n 100 (t_l 99 (a_push 1 (.int 0))) (t_l 100 (a_newa 0))) (t_n 105 (t_l 102 (a_putf 9 12 15)) (t_n 106 (t_l 105 (a_aload 1 0)) (t_l 106 (a_push 1 (.int 0)))))) (t_n 113 (t_n 110 (t_l 107 (a_newq 5)) (t_l 110 (a_putf 9 12 16))) (t_n 114 (t_l 113 (a_aload 1 0)) (t_n 116 (t_l 114 (a_push 2 (.int 20))) (t_l 116 (a_newa 0))))))) (t_n 137 (t_n 129 (t_n 122 (t_n 121 (t_l 118 (a_putf 9 12 17)) (t_l 121 (a_aload 1 0))) (t_n 123 (t_l 122 (a_push 1 (.int 0))) (t_n 126 (t_l 123 (a_newq 3)) (t_l 126 (a_putf 9 12 20))))) (t_n 131 (t_n 130 (t_l 129 (a_aload 1 0)) (t_l 130 (a_push 1 (.int 0)))) (t_n 133 (t_l 131 (a_newa 0)) (t_n 136 (t_l 133 (a_putf 9 12 22)) (t_l 136 (a_aload 1 0)))))) (t_n 146 (t_n 141 (t_n 139 (t_l 137 (a_push 2 (.int 20))) (t_l 139 (a_newa 0))) (t_n 144 (t_l 141 (a_putf 9 12 23)) (t_n 145 (t_l 144 (a_aload 1 0)) (t_l 145 (a_aload 1 1))))) (t_n 150 (t_n 149 (t_l 146 (a_putf 9 12 1)) (t_l 149 (a_aload 1 0))) (t_n 151 (t_l 150 (a_iload 1 2)) (t_n 154 (t_l 151 (a_putf 0 12 2)) (t_l 154 a_vret))))))))
set_option maxRecDepth 100000 in
theorem k_X12_init (sc : Nat × (Nat → Int32)) (d : Nat) : ∀ pc, ev_Ok cX12_init 3 [] RX12 lw_g lw_n (lw_q sc) vwCl true (ev_CO mt lw_g lw_n (lw_q sc) vwCl d) pc (g_X12_init pc) := (ok_t_n (ok_t_n (ok_t_n (ok_t_n (ok_t_n (ok_t_n (ok_t_l (ok_aload_n dX12_init_0 rfl)) (ok_t_l (ok_objinit dX12_init_1 w_954 w_94 w_obj ev_CO.small))) (ok_t_n (ok_t_l (ok_aload_n dX12_init_4 rfl)) (ok_t_n (ok_t_l (ok_new dX12_init_5 (ci := 11) rfl inGX11 tyX11 tyX11_ok w_955 w_848 w_39 (by decide +kernel) rfl)) (ok_t_l (ok_dup dX12_init_8))))) (ok_t_n (ok_t_n (ok_t_l (ok_inv (run_I (y := 158) (n := 0) (ci := 11) dX12_init_9 cz_158 gdG cc_158 ci_158 w_956 cm_158 rfl rfl cd_158 cl_158))) (ok_t_l (ok_putfieldF dX12_init_12 (ci := 12) (kf := 0) rfl inGX12 (by decide) tyX12_ok nmX12 rfl w_1340 rfl rfl rfl))) (ok_t_n (ok_t_l (ok_aload_n dX12_init_15 rfl)) (ok_t_n (ok_t_l (ok_iconst dX12_init_16 rfl)) (ok_t_l (ok_anewq (ft := .int) dX12_init_17 (by decide) (by decide) rfl w_1334 (by decide))))))) (ok_t_n (ok_t_n (ok_t_n (ok_t_l (ok_putfield dX12_init_20 (ci := 12) (kf := 4) rfl inGX12 (by decide) tyX12_ok nmX12 rfl w_1345 rfl)) (ok_t_l (ok_aload_n dX12_init_23 rfl))) (ok_t_n (ok_t_l (ok_iconst dX12_init_24 rfl)) (ok_t_n (ok_t_l (ok_anewq (ft := .array .int) dX12_init_25 (by decide) (by decide) rfl w_1336 (by decide))) (ok_t_l (ok_putfield dX12_init_28 (ci := 12) (kf := 5) rfl inGX12 (by decide) tyX12_ok nmX12 rfl w_1347 rfl))))) (ok_t_n (ok_t_n (ok_t_l (ok_aload_n dX12_init_31 rfl)) (ok_t_l (ok_iconst dX12_init_32 rfl))) (ok_t_n (ok_t_l (ok_anewq (ft := .int) dX12_init_33 (by decide) (by decide) rfl w_1334 (by decide))) (ok_t_n (ok_t_l (ok_putfield dX12_init_36 (ci := 12) (kf := 6) rfl inGX12 (by decide) tyX12_ok nmX12 rfl w_1349 rfl)) (ok_t_l (ok_aload_n dX12_init_39 rfl))))))) (ok_t_n (ok_t_n (ok_t_n (ok_t_n (ok_t_l (ok_iconst dX12_init_40 rfl)) (ok_t_l (ok_anewq (ft := .int) dX12_init_41 (by decide) (by decide) rfl w_1334 (by decide)))) (ok_t_n (ok_t_l (ok_putfield dX12_init_44 (ci := 12) (kf := 7) rfl inGX12 (by decide) tyX12_ok nmX12 rfl w_1350 rfl)) (ok_t_n (ok_t_l (ok_aload_n dX12_init_47 rfl)) (ok_t_l (ok_bipush dX12_init_48 rfl))))) (ok_t_n (ok_t_n (ok_t_l (ok_putfield dX12_init_50 (ci := 12) (kf := 8) rfl inGX12 (by decide) tyX12_ok nmX12 rfl w_1351 rfl)) (ok_t_l (ok_aload_n dX12_init_53 rfl))) (ok_t_n (ok_t_l (ok_sipush dX12_init_54 rfl)) (ok_t_n (ok_t_l (ok_putfield dX12_init_57 (ci := 12) (kf := 9) rfl inGX12 (by decide) tyX12_ok nmX12 rfl w_1352 rfl)) (ok_t_l (ok_aload_n dX12_init_60 rfl)))))) (ok_t_n (ok_t_n (ok_t_n (ok_t_l (ok_iconst dX12_init_61 rfl)) (ok_t_l (ok_newint dX12_init_62 w_614))) (ok_t_n (ok_t_l (ok_putfield dX12_init_64 (ci := 12) (kf := 10) rfl inGX12 (by decide) tyX12_ok nmX12 rfl w_1353 rfl)) (ok_t_n (ok_t_l (ok_aload_n dX12_init_67 rfl)) (ok_t_l (ok_bipush dX12_init_68 rfl))))) (ok_t_n (ok_t_n (ok_t_l (ok_newint dX12_init_70 w_614)) (ok_t_l (ok_putfieldF dX12_init_72 (ci := 12) (kf := 11) rfl inGX12 (by decide) tyX12_ok nmX12 rfl w_1354 rfl rfl rfl))) (ok_t_n (ok_t_l (ok_aload_n dX12_init_75 rfl)) (ok_t_n (ok_t_l (ok_bipush dX12_init_76 rfl)) (ok_t_l (ok_newint dX12_init_78 w_614)))))))) (ok_t_n (ok_t_n (ok_t_n (ok_t_n (ok_t_n (ok_t_l (ok_putfieldF dX12_init_80 (ci := 12) (kf := 12) rfl inGX12 (by decide) tyX12_ok nmX12 rfl w_1355 rfl rfl rfl)) (ok_t_l (ok_aload_n dX12_init_83 rfl))) (ok_t_n (ok_t_l (ok_iconst dX12_init_84 rfl)) (ok_t_n (ok_t_l (ok_newboolean dX12_init_85 w_1030)) (ok_t_l (ok_putfield dX12_init_87 (ci := 12) (kf := 13) rfl inGX12 (by decide) tyX12_ok nmX12 rfl w_1356 rfl))))) (ok_t_n (ok_t_n (ok_t_l (ok_aload_n dX12_init_90 rfl)) (ok_t_l (ok_bipush dX12_init_91 rfl))) (ok_t_n (ok_t_l (ok_newboolean dX12_init_93 w_1030)) (ok_t_n (ok_t_l (ok_putfield dX12_init_95 (ci := 12) (kf := 14) rfl inGX12 (by decide) tyX12_ok nmX12 rfl w_1357 rfl)) (ok_t_l (ok_aload_n dX12_init_98 rfl)))))) (ok_t_n (ok_t_n (ok_t_n (ok_t_l (ok_iconst dX12_init_99 rfl)) (ok_t_l (ok_newint dX12_init_100 w_614))) (ok_t_n (ok_t_l (ok_putfield dX12_init_102 (ci := 12) (kf := 15) rfl inGX12 (by decide) tyX12_ok nmX12 rfl w_1358 rfl)) (ok_t_n (ok_t_l (ok_aload_n dX12_init_105 rfl)) (ok_t_l (ok_iconst dX12_init_106 rfl))))) (ok_t_n (ok_t_n (ok_t_l (ok_anewq (ft := .boolean) dX12_init_107 (by decide) (by decide) rfl w_1338 (by decide))) (ok_t_l (ok_putfield dX12_init_110 (ci := 12) (kf := 16) rfl inGX12 (by decide) tyX12_ok nmX12 rfl w_1359 rfl))) (ok_t_n (ok_t_l (ok_aload_n dX12_init_113 rfl)) (ok_t_n (ok_t_l (ok_bipush dX12_init_114 rfl)) (ok_t_l (ok_newint dX12_init_116 w_614))))))) (ok_t_n (ok_t_n (ok_t_n (ok_t_n (ok_t_l (ok_putfieldF dX12_init_118 (ci := 12) (kf := 17) rfl inGX12 (by decide) tyX12_ok nmX12 rfl w_1360 rfl rfl rfl)) (ok_t_l (ok_aload_n dX12_init_121 rfl))) (ok_t_n (ok_t_l (ok_iconst dX12_init_122 rfl)) (ok_t_n (ok_t_l (ok_anewq (ft := .int) dX12_init_123 (by decide) (by decide) rfl w_1334 (by decide))) (ok_t_l (ok_putfield dX12_init_126 (ci := 12) (kf := 20) rfl inGX12 (by decide) tyX12_ok nmX12 rfl w_1361 rfl))))) (ok_t_n (ok_t_n (ok_t_l (ok_aload_n dX12_init_129 rfl)) (ok_t_l (ok_iconst dX12_init_130 rfl))) (ok_t_n (ok_t_l (ok_newint dX12_init_131 w_614)) (ok_t_n (ok_t_l (ok_putfield dX12_init_133 (ci := 12) (kf := 22) rfl inGX12 (by decide) tyX12_ok nmX12 rfl w_1362 rfl)) (ok_t_l (ok_aload_n dX12_init_136 rfl)))))) (ok_t_n (ok_t_n (ok_t_n (ok_t_l (ok_bipush dX12_init_137 rfl)) (ok_t_l (ok_newint dX12_init_139 w_614))) (ok_t_n (ok_t_l (ok_putfieldF dX12_init_141 (ci := 12) (kf := 23) rfl inGX12 (by decide) tyX12_ok nmX12 rfl w_1363 rfl rfl rfl)) (ok_t_n (ok_t_l (ok_aload_n dX12_init_144 rfl)) (ok_t_l (ok_aload_n dX12_init_145 rfl))))) (ok_t_n (ok_t_n (ok_t_l (ok_putfieldF dX12_init_146 (ci := 12) (kf := 1) rfl inGX12 (by decide) tyX12_ok nmX12 rfl w_1342 rfl rfl rfl)) (ok_t_l (ok_aload_n dX12_init_149 rfl))) (ok_t_n (ok_t_l (ok_iload_n dX12_init_150 rfl)) (ok_t_n (ok_t_l (ok_putfield dX12_init_151 (ci := 12) (kf := 2) rfl inGX12 (by decide) tyX12_ok nmX12 rfl w_1343 rfl)) (ok_t_l (ok_vreturn dX12_init_154)))))))))
theorem dX12_draw_0 : decode cX12_draw 0 = .ok (.aload_n 0, 1) := by decide +kernel
theorem dX12_draw_1 : decode cX12_draw 1 = .ok (.getfield 76, 3) := by decide +kernel
theorem dX12_draw_4 : decode cX12_draw 4 = .ok (.aload_n 0, 1) := by decide +kernel
theorem dX12_draw_5 : decode cX12_draw 5 = .ok (.getfield 79, 3) := by decide +kernel
theorem dX12_draw_8 : decode cX12_draw 8 = .ok (.bipush 24, 2) := by decide +kernel
theorem dX12_draw_10 : decode cX12_draw 10 = .ok (.irem, 1) := by decide +kernel
theorem dX12_draw_11 : decode cX12_draw 11 = .ok (.invokestatic 82, 3) := by decide +kernel
theorem dX12_draw_14 : decode cX12_draw 14 = .ok (.aload_n 0, 1) := by decide +kernel
theorem dX12_draw_15 : decode cX12_draw 15 = .ok (.getfield 79, 3) := by decide +kernel
theorem dX12_draw_18 : decode cX12_draw 18 = .ok (.bipush 24, 2) := by decide +kernel
theorem dX12_draw_20 : decode cX12_draw 20 = .ok (.idiv, 1) := by decide +kernel
theorem dX12_draw_21 : decode cX12_draw 21 = .ok (.bipush 8, 2) := by decide +kernel
theorem dX12_draw_23 : decode cX12_draw 23 = .ok (.irem, 1) := by decide +kernel
theorem dX12_draw_24 : decode cX12_draw 24 = .ok (.ishr, 1) := by decide +kernel
theorem dX12_draw_25 : decode cX12_draw 25 = .ok (.sipush 229, 3) := by decide +kernel
theorem dX12_draw_28 : decode cX12_draw 28 = .ok (.aload_n 0, 1) := by decide +kernel
theorem dX12_draw_29 : decode cX12_draw 29 = .ok (.getfield 79, 3) := by decide +kernel
theorem dX12_draw_32 : decode cX12_draw 32 = .ok (.imul, 1) := by decide +kernel
theorem dX12_draw_33 : decode cX12_draw 33 = .ok (.iadd, 1) := by decide +kernel
theorem dX12_draw_34 : decode cX12_draw 34 = .ok (.iload_n 1, 1) := by decide +kernel
theorem dX12_draw_35 : decode cX12_draw 35 = .ok (.invokestatic 88, 3) := by decide +kernel
theorem dX12_draw_38 : decode cX12_draw 38 = .ok (.istore_n 2, 1) := by decide +kernel
theorem dX12_draw_39 : decode cX12_draw 39 = .ok (.aload_n 0, 1) := by decide +kernel
theorem dX12_draw_40 : decode cX12_draw 40 = .ok (.dup, 1) := by decide +kernel
theorem dX12_draw_41 : decode cX12_draw 41 = .ok (.getfield 79, 3) := by decide +kernel
theorem dX12_draw_44 : decode cX12_draw 44 = .ok (.iconst 1, 1) := by decide +kernel
theorem dX12_draw_45 : decode cX12_draw 45 = .ok (.iadd, 1) := by decide +kernel
theorem dX12_draw_46 : decode cX12_draw 46 = .ok (.putfield 79, 3) := by decide +kernel
theorem dX12_draw_49 : decode cX12_draw 49 = .ok (.iload_n 2, 1) := by decide +kernel
theorem dX12_draw_50 : decode cX12_draw 50 = .ok (.ireturn, 1) := by decide +kernel
def g_X12_draw : Nat → EA := (t_n 28 (t_n 14 (t_n 5 (t_n 1 (t_l 0 (a_aload 1 0)) (t_n 4 (t_l 1 (a_getf 12 1)) (t_l 4 (a_aload 1 0)))) (t_n 10 (t_n 8 (t_l 5 (a_getf 12 2)) (t_l 8 (a_push 2 (.int 24)))) (t_n 11 (t_l 10 (a_iiN (fun x y => x - x / y * y))) (t_l 11 (a_inv false 213 2 none))))) (t_n 21 (t_n 18 (t_n 15 (t_l 14 (a_aload 1 0)) (t_l 15 (a_getf 12 2))) (t_n 20 (t_l 18 (a_push 2 (.int 24))) (t_l 20 (a_iiN (fun x y => x / y))))) (t_n 24 (t_n 23 (t_l 21 (a_push 2 (.int 8))) (t_l 23 (a_iiN (fun x y => x - x / y * y)))) (t_n 25 (t_l 24 (a_ii 1 (fun x y => x >>> (y &&& 31)))) (t_l 25 (a_push 3 (.int 229))))))) (t_n 39 (t_n 33 (t_n 29 (t_l 28 (a_aload 1 0)) (t_n 32 (t_l 29 (a_getf 12 2)) (t_l 32 (a_ii 1 (fun x y => x * y))))) (t_n 35 (t_n 34 (t_l 33 (a_ii 1 (fun x y => x + y))) (t_l 34 (a_iload 1 1))) (t_n 38 (t_l 35 (a_inv false 212 2 none)) (t_l 38 (a_istore 3 1 2))))) (t_n 45 (t_n 41 (t_n 40 (t_l 39 (a_aload 1 0)) (t_l 40 a_dup)) (t_n 44 (t_l 41 (a_getf 12 2)) (t_l 44 (a_push 1 (.int 1))))) (t_n 49 (t_n 46 (t_l 45 (a_ii 1 (fun x y => x + y))) (t_l 46 (a_putf 0 12 2))) (t_n 50 (t_l 49 (a_iload 1 2)) (t_l 50 a_iret))))))
set_option maxRecDepth 100000 in
theorem k_X12_draw (sc : Nat × (Nat → Int32)) (d : Nat) : ∀ pc, ev_Ok cX12_draw 3 [] RX12 lw_g lw_n (lw_q sc) vwCl false (ev_CO mt lw_g lw_n (lw_q sc) vwCl d) pc (g_X12_draw pc) := (ok_t_n (ok_t_n (ok_t_n (ok_t_n (ok_t_l (ok_aload_n dX12_draw_0 rfl)) (ok_t_n (ok_t_l (ok_getfield dX12_draw_1 (ci := 12) (kf := 1) rfl inGX12 (by decide) w_1342)) (ok_t_l (ok_aload_n dX12_draw_4 rfl)))) (ok_t_n (ok_t_n (ok_t_l (ok_getfield dX12_draw_5 (ci := 12) (kf := 2) rfl inGX12 (by decide) w_1343)) (ok_t_l (ok_bipush dX12_draw_8 rfl))) (ok_t_n (ok_t_l (ok_irem dX12_draw_10)) (ok_t_l (ok_inv (run_SN (y := 213) (n := 2) dX12_draw_11 cz_213 gdG cc_213 ci_213 nst_30 cm_213 cd_213 cl_213)))))) (ok_t_n (ok_t_n (ok_t_n (ok_t_l (ok_aload_n dX12_draw_14 rfl)) (ok_t_l (ok_getfield dX12_draw_15 (ci := 12) (kf := 2) rfl inGX12 (by decide) w_1343))) (ok_t_n (ok_t_l (ok_bipush dX12_draw_18 rfl)) (ok_t_l (ok_idiv dX12_draw_20)))) (ok_t_n (ok_t_n (ok_t_l (ok_bipush dX12_draw_21 rfl)) (ok_t_l (ok_irem dX12_draw_23))) (ok_t_n (ok_t_l (ok_ishr dX12_draw_24)) (ok_t_l (ok_sipush dX12_draw_25 rfl)))))) (ok_t_n (ok_t_n (ok_t_n (ok_t_l (ok_aload_n dX12_draw_28 rfl)) (ok_t_n (ok_t_l (ok_getfield dX12_draw_29 (ci := 12) (kf := 2) rfl inGX12 (by decide) w_1343)) (ok_t_l (ok_imul dX12_draw_32)))) (ok_t_n (ok_t_n (ok_t_l (ok_iadd dX12_draw_33)) (ok_t_l (ok_iload_n dX12_draw_34 rfl))) (ok_t_n (ok_t_l (ok_inv (run_SN (y := 212) (n := 2) dX12_draw_35 cz_212 gdG cc_212 ci_212 nst_31 cm_212 cd_212 cl_212))) (ok_t_l (ok_istore_n dX12_draw_38 rfl))))) (ok_t_n (ok_t_n (ok_t_n (ok_t_l (ok_aload_n dX12_draw_39 rfl)) (ok_t_l (ok_dup dX12_draw_40))) (ok_t_n (ok_t_l (ok_getfield dX12_draw_41 (ci := 12) (kf := 2) rfl inGX12 (by decide) w_1343)) (ok_t_l (ok_iconst dX12_draw_44 rfl)))) (ok_t_n (ok_t_n (ok_t_l (ok_iadd dX12_draw_45)) (ok_t_l (ok_putfield dX12_draw_46 (ci := 12) (kf := 2) rfl inGX12 (by decide) tyX12_ok nmX12 rfl w_1343 rfl))) (ok_t_n (ok_t_l (ok_iload_n dX12_draw_49 rfl)) (ok_t_l (ok_ireturn dX12_draw_50)))))))
theorem dX12_with_0 : decode cX12_with 0 = .ok (.aload_n 0, 1) := by decide +kernel
theorem dX12_with_1 : decode cX12_with 1 = .ok (.arraylength, 1) := by decide +kernel
theorem dX12_with_2 : decode cX12_with 2 = .ok (.iconst 1, 1) := by decide +kernel
theorem dX12_with_3 : decode cX12_with 3 = .ok (.iadd, 1) := by decide +kernel
theorem dX12_with_4 : decode cX12_with 4 = .ok (.anewarray 16, 3) := by decide +kernel
theorem dX12_with_7 : decode cX12_with 7 = .ok (.astore_n 2, 1) := by decide +kernel
theorem dX12_with_8 : decode cX12_with 8 = .ok (.aload_n 0, 1) := by decide +kernel
theorem dX12_with_9 : decode cX12_with 9 = .ok (.iconst 0, 1) := by decide +kernel
theorem dX12_with_10 : decode cX12_with 10 = .ok (.aload_n 2, 1) := by decide +kernel
theorem dX12_with_11 : decode cX12_with 11 = .ok (.iconst 0, 1) := by decide +kernel
theorem dX12_with_12 : decode cX12_with 12 = .ok (.aload_n 0, 1) := by decide +kernel
theorem dX12_with_13 : decode cX12_with 13 = .ok (.arraylength, 1) := by decide +kernel
theorem dX12_with_14 : decode cX12_with 14 = .ok (.invokestatic 92, 3) := by decide +kernel
theorem dX12_with_17 : decode cX12_with 17 = .ok (.aload_n 2, 1) := by decide +kernel
theorem dX12_with_18 : decode cX12_with 18 = .ok (.aload_n 0, 1) := by decide +kernel
theorem dX12_with_19 : decode cX12_with 19 = .ok (.arraylength, 1) := by decide +kernel
theorem dX12_with_20 : decode cX12_with 20 = .ok (.aload_n 1, 1) := by decide +kernel
theorem dX12_with_21 : decode cX12_with 21 = .ok (.aastore, 1) := by decide +kernel
theorem dX12_with_22 : decode cX12_with 22 = .ok (.aload_n 2, 1) := by decide +kernel
theorem dX12_with_23 : decode cX12_with 23 = .ok (.areturn, 1) := by decide +kernel
def g_X12_with : Nat → EA := (t_n 12 (t_n 7 (t_n 2 (t_n 1 (t_l 0 (a_aload 1 0)) (t_l 1 a_alen)) (t_n 3 (t_l 2 (a_push 1 (.int 1))) (t_n 4 (t_l 3 (a_ii 1 (fun x y => x + y))) (t_l 4 (a_newq 3))))) (t_n 9 (t_n 8 (t_l 7 (a_astore 3 1 2)) (t_l 8 (a_aload 1 0))) (t_n 10 (t_l 9 (a_push 1 (.int 0))) (t_n 11 (t_l 10 (a_aload 1 2)) (t_l 11 (a_push 1 (.int 0))))))) (t_n 19 (t_n 14 (t_n 13 (t_l 12 (a_aload 1 0)) (t_l 13 a_alen)) (t_n 17 (t_l 14 a_cpq) (t_n 18 (t_l 17 (a_aload 1 2)) (t_l 18 (a_aload 1 0))))) (t_n 21 (t_n 20 (t_l 19 a_alen) (t_l 20 (a_aload 1 1))) (t_n 22 (t_l 21 a_ast) (t_n 23 (t_l 22 (a_aload 1 2)) (t_l 23 a_aret))))))
set_option maxRecDepth 100000 in
theorem k_X12_with (sc : Nat × (Nat → Int32)) (d : Nat) : ∀ pc, ev_Ok cX12_with 3 [] RX12 lw_g lw_n (lw_q sc) vwCl false (ev_CO mt lw_g lw_n (lw_q sc) vwCl d) pc (g_X12_with pc) := (ok_t_n (ok_t_n (ok_t_n (ok_t_n (ok_t_l (ok_aload_n dX12_with_0 rfl)) (ok_t_l (ok_arraylength dX12_with_1))) (ok_t_n (ok_t_l (ok_iconst dX12_with_2 rfl)) (ok_t_n (ok_t_l (ok_iadd dX12_with_3)) (ok_t_l (ok_anewq (ft := .int) dX12_with_4 (by decide) (by decide) rfl w_1334 (by decide)))))) (ok_t_n (ok_t_n (ok_t_l (ok_astore_n dX12_with_7 rfl)) (ok_t_l (ok_aload_n dX12_with_8 rfl))) (ok_t_n (ok_t_l (ok_iconst dX12_with_9 rfl)) (ok_t_n (ok_t_l (ok_aload_n dX12_with_10 rfl)) (ok_t_l (ok_iconst dX12_with_11 rfl)))))) (ok_t_n (ok_t_n (ok_t_n (ok_t_l (ok_aload_n dX12_with_12 rfl)) (ok_t_l (ok_arraylength dX12_with_13))) (ok_t_n (ok_t_l (ok_cpq dX12_with_14 w_1428 w_1430 w_1429 w_55 ev_CO.small2)) (ok_t_n (ok_t_l (ok_aload_n dX12_with_17 rfl)) (ok_t_l (ok_aload_n dX12_with_18 rfl))))) (ok_t_n (ok_t_n (ok_t_l (ok_arraylength dX12_with_19)) (ok_t_l (ok_aload_n dX12_with_20 rfl))) (ok_t_n (ok_t_l (ok_aastore dX12_with_21)) (ok_t_n (ok_t_l (ok_aload_n dX12_with_22 rfl)) (ok_t_l (ok_areturn dX12_with_23)))))))
theorem dX12_plus_0 : decode cX12_plus 0 = .ok (.aload_n 0, 1) := by decide +kernel
theorem dX12_plus_1 : decode cX12_plus 1 = .ok (.arraylength, 1) := by decide +kernel
theorem dX12_plus_2 : decode cX12_plus 2 = .ok (.iconst 1, 1) := by decide +kernel
theorem dX12_plus_3 : decode cX12_plus 3 = .ok (.iadd, 1) := by decide +kernel
theorem dX12_plus_4 : decode cX12_plus 4 = .ok (.anewarray 22, 3) := by decide +kernel
theorem dX12_plus_7 : decode cX12_plus 7 = .ok (.astore_n 2, 1) := by decide +kernel
theorem dX12_plus_8 : decode cX12_plus 8 = .ok (.aload_n 0, 1) := by decide +kernel
theorem dX12_plus_9 : decode cX12_plus 9 = .ok (.iconst 0, 1) := by decide +kernel
theorem dX12_plus_10 : decode cX12_plus 10 = .ok (.aload_n 2, 1) := by decide +kernel
theorem dX12_plus_11 : decode cX12_plus 11 = .ok (.iconst 0, 1) := by decide +kernel
theorem dX12_plus_12 : decode cX12_plus 12 = .ok (.aload_n 0, 1) := by decide +kernel
theorem dX12_plus_13 : decode cX12_plus 13 = .ok (.arraylength, 1) := by decide +kernel
theorem dX12_plus_14 : decode cX12_plus 14 = .ok (.invokestatic 92, 3) := by decide +kernel
theorem dX12_plus_17 : decode cX12_plus 17 = .ok (.aload_n 2, 1) := by decide +kernel
theorem dX12_plus_18 : decode cX12_plus 18 = .ok (.aload_n 0, 1) := by decide +kernel
theorem dX12_plus_19 : decode cX12_plus 19 = .ok (.arraylength, 1) := by decide +kernel
theorem dX12_plus_20 : decode cX12_plus 20 = .ok (.aload_n 1, 1) := by decide +kernel
theorem dX12_plus_21 : decode cX12_plus 21 = .ok (.aastore, 1) := by decide +kernel
theorem dX12_plus_22 : decode cX12_plus 22 = .ok (.aload_n 2, 1) := by decide +kernel
theorem dX12_plus_23 : decode cX12_plus 23 = .ok (.areturn, 1) := by decide +kernel
def g_X12_plus : Nat → EA := (t_n 12 (t_n 7 (t_n 2 (t_n 1 (t_l 0 (a_aload 1 0)) (t_l 1 a_alen)) (t_n 3 (t_l 2 (a_push 1 (.int 1))) (t_n 4 (t_l 3 (a_ii 1 (fun x y => x + y))) (t_l 4 (a_newq 4))))) (t_n 9 (t_n 8 (t_l 7 (a_astore 3 1 2)) (t_l 8 (a_aload 1 0))) (t_n 10 (t_l 9 (a_push 1 (.int 0))) (t_n 11 (t_l 10 (a_aload 1 2)) (t_l 11 (a_push 1 (.int 0))))))) (t_n 19 (t_n 14 (t_n 13 (t_l 12 (a_aload 1 0)) (t_l 13 a_alen)) (t_n 17 (t_l 14 a_cpq) (t_n 18 (t_l 17 (a_aload 1 2)) (t_l 18 (a_aload 1 0))))) (t_n 21 (t_n 20 (t_l 19 a_alen) (t_l 20 (a_aload 1 1))) (t_n 22 (t_l 21 a_ast) (t_n 23 (t_l 22 (a_aload 1 2)) (t_l 23 a_aret))))))
set_option maxRecDepth 100000 in
theorem k_X12_plus (sc : Nat × (Nat → Int32)) (d : Nat) : ∀ pc, ev_Ok cX12_plus 3 [] RX12 lw_g lw_n (lw_q sc) vwCl false (ev_CO mt lw_g lw_n (lw_q sc) vwCl d) pc (g_X12_plus pc) := (ok_t_n (ok_t_n (ok_t_n (ok_t_n (ok_t_l (ok_aload_n dX12_plus_0 rfl)) (ok_t_l (ok_arraylength dX12_plus_1))) (ok_t_n (ok_t_l (ok_iconst dX12_plus_2 rfl)) (ok_t_n (ok_t_l (ok_iadd dX12_plus_3)) (ok_t_l (ok_anewq (ft := .array .int) dX12_plus_4 (by decide) (by decide) rfl w_1336 (by decide)))))) (ok_t_n (ok_t_n (ok_t_l (ok_astore_n dX12_plus_7 rfl)) (ok_t_l (ok_aload_n dX12_plus_8 rfl))) (ok_t_n (ok_t_l (ok_iconst dX12_plus_9 rfl)) (ok_t_n (ok_t_l (ok_aload_n dX12_plus_10 rfl)) (ok_t_l (ok_iconst dX12_plus_11 rfl)))))) (ok_t_n (ok_t_n (ok_t_n (ok_t_l (ok_aload_n dX12_plus_12 rfl)) (ok_t_l (ok_arraylength dX12_plus_13))) (ok_t_n (ok_t_l (ok_cpq dX12_plus_14 w_1428 w_1430 w_1429 w_55 ev_CO.small2)) (ok_t_n (ok_t_l (ok_aload_n dX12_plus_17 rfl)) (ok_t_l (ok_aload_n dX12_plus_18 rfl))))) (ok_t_n (ok_t_n (ok_t_l (ok_arraylength dX12_plus_19)) (ok_t_l (ok_aload_n dX12_plus_20 rfl))) (ok_t_n (ok_t_l (ok_aastore dX12_plus_21)) (ok_t_n (ok_t_l (ok_aload_n dX12_plus_22 rfl)) (ok_t_l (ok_areturn dX12_plus_23)))))))
theorem dX12_section_0 : decode cX12_section 0 = .ok (.aload_n 0, 1) := by decide +kernel
theorem dX12_section_1 : decode cX12_section 1 = .ok (.getfield 18, 3) := by decide +kernel
theorem dX12_section_4 : decode cX12_section 4 = .ok (.arraylength, 1) := by decide +kernel
theorem dX12_section_5 : decode cX12_section 5 = .ok (.bipush 24, 2) := by decide +kernel
theorem dX12_section_7 : decode cX12_section 7 = .ok (.if_icmp .eq 10, 3) := by decide +kernel
theorem dX12_section_10 : decode cX12_section 10 = .ok (.aload_n 0, 1) := by decide +kernel
theorem dX12_section_11 : decode cX12_section 11 = .ok (.getfield 98, 3) := by decide +kernel
theorem dX12_section_14 : decode cX12_section 14 = .ok (.ifCond .ne 5, 3) := by decide +kernel
theorem dX12_section_17 : decode cX12_section 17 = .ok (.iconst 1, 1) := by decide +kernel
theorem dX12_section_18 : decode cX12_section 18 = .ok (.ireturn, 1) := by decide +kernel
theorem dX12_section_19 : decode cX12_section 19 = .ok (.aload_n 0, 1) := by decide +kernel
theorem dX12_section_20 : decode cX12_section 20 = .ok (.aload_n 0, 1) := by decide +kernel
theorem dX12_section_21 : decode cX12_section 21 = .ok (.getfield 98, 3) := by decide +kernel
theorem dX12_section_24 : decode cX12_section 24 = .ok (.invokevirtual 101, 3) := by decide +kernel
theorem dX12_section_27 : decode cX12_section 27 = .ok (.istore_n 1, 1) := by decide +kernel
theorem dX12_section_28 : decode cX12_section 28 = .ok (.iconst 1, 1) := by decide +kernel
theorem dX12_section_29 : decode cX12_section 29 = .ok (.aload_n 0, 1) := by decide +kernel
theorem dX12_section_30 : decode cX12_section 30 = .ok (.iconst 4, 1) := by decide +kernel
theorem dX12_section_31 : decode cX12_section 31 = .ok (.invokevirtual 101, 3) := by decide +kernel
theorem dX12_section_34 : decode cX12_section 34 = .ok (.ishl, 1) := by decide +kernel
theorem dX12_section_35 : decode cX12_section 35 = .ok (.istore_n 2, 1) := by decide +kernel
theorem dX12_section_36 : decode cX12_section 36 = .ok (.aload_n 0, 1) := by decide +kernel
theorem dX12_section_37 : decode cX12_section 37 = .ok (.iconst 4, 1) := by decide +kernel
theorem dX12_section_38 : decode cX12_section 38 = .ok (.invokevirtual 101, 3) := by decide +kernel
theorem dX12_section_41 : decode cX12_section 41 = .ok (.ifCond .ne 7, 3) := by decide +kernel
theorem dX12_section_44 : decode cX12_section 44 = .ok (.iconst 1, 1) := by decide +kernel
theorem dX12_section_45 : decode cX12_section 45 = .ok (.goto 4, 3) := by decide +kernel
theorem dX12_section_48 : decode cX12_section 48 = .ok (.iconst 0, 1) := by decide +kernel
theorem dX12_section_49 : decode cX12_section 49 = .ok (.istore_n 3, 1) := by decide +kernel
theorem dX12_section_50 : decode cX12_section 50 = .ok (.aload_n 0, 1) := by decide +kernel
theorem dX12_section_51 : decode cX12_section 51 = .ok (.aload_n 0, 1) := by decide +kernel
theorem dX12_section_52 : decode cX12_section 52 = .ok (.getfield 18, 3) := by decide +kernel
theorem dX12_section_55 : decode cX12_section 55 = .ok (.iconst 3, 1) := by decide +kernel
theorem dX12_section_56 : decode cX12_section 56 = .ok (.newarray .int, 2) := by decide +kernel
theorem dX12_section_58 : decode cX12_section 58 = .ok (.dup, 1) := by decide +kernel
theorem dX12_section_59 : decode cX12_section 59 = .ok (.iconst 0, 1) := by decide +kernel
theorem dX12_section_60 : decode cX12_section 60 = .ok (.iload_n 1, 1) := by decide +kernel
theorem dX12_section_61 : decode cX12_section 61 = .ok (.iastore, 1) := by decide +kernel
theorem dX12_section_62 : decode cX12_section 62 = .ok (.dup, 1) := by decide +kernel
theorem dX12_section_63 : decode cX12_section 63 = .ok (.iconst 1, 1) := by decide +kernel
theorem dX12_section_64 : decode cX12_section 64 = .ok (.iload_n 2, 1) := by decide +kernel
theorem dX12_section_65 : decode cX12_section 65 = .ok (.iastore, 1) := by decide +kernel
theorem dX12_section_66 : decode cX12_section 66 = .ok (.dup, 1) := by decide +kernel
theorem dX12_section_67 : decode cX12_section 67 = .ok (.iconst 2, 1) := by decide +kernel
theorem dX12_section_68 : decode cX12_section 68 = .ok (.iload_n 3, 1) := by decide +kernel
theorem dX12_section_69 : decode cX12_section 69 = .ok (.iastore, 1) := by decide +kernel
theorem dX12_section_70 : decode cX12_section 70 = .ok (.invokestatic 105, 3) := by decide +kernel
theorem dX12_section_73 : decode cX12_section 73 = .ok (.putfield 18, 3) := by decide +kernel
theorem dX12_section_76 : decode cX12_section 76 = .ok (.aload_n 0, 1) := by decide +kernel
theorem dX12_section_77 : decode cX12_section 77 = .ok (.aload_n 0, 1) := by decide +kernel
theorem dX12_section_78 : decode cX12_section 78 = .ok (.getfield 23, 3) := by decide +kernel
theorem dX12_section_81 : decode cX12_section 81 = .ok (.iconst 0, 1) := by decide +kernel
theorem dX12_section_82 : decode cX12_section 82 = .ok (.anewarray 16, 3) := by decide +kernel
theorem dX12_section_85 : decode cX12_section 85 = .ok (.invokestatic 109, 3) := by decide +kernel
theorem dX12_section_88 : decode cX12_section 88 = .ok (.putfield 23, 3) := by decide +kernel
theorem dX12_section_91 : decode cX12_section 91 = .ok (.aload_n 0, 1) := by decide +kernel
theorem dX12_section_92 : decode cX12_section 92 = .ok (.getfield 10, 3) := by decide +kernel
theorem dX12_section_95 : decode cX12_section 95 = .ok (.iload_n 1, 1) := by decide +kernel
theorem dX12_section_96 : decode cX12_section 96 = .ok (.iload_n 2, 1) := by decide +kernel
theorem dX12_section_97 : decode cX12_section 97 = .ok (.iload_n 3, 1) := by decide +kernel
theorem dX12_section_98 : decode cX12_section 98 = .ok (.iconst 1, 1) := by decide +kernel
theorem dX12_section_99 : decode cX12_section 99 = .ok (.if_icmp .ne 7, 3) := by decide +kernel
theorem dX12_section_102 : decode cX12_section 102 = .ok (.iconst 1, 1) := by decide +kernel
theorem dX12_section_103 : decode cX12_section 103 = .ok (.goto 4, 3) := by decide +kernel
theorem dX12_section_106 : decode cX12_section 106 = .ok (.iconst 0, 1) := by decide +kernel
theorem dX12_section_107 : decode cX12_section 107 = .ok (.invokevirtual 113, 3) := by decide +kernel
theorem dX12_section_110 : decode cX12_section 110 = .ok (.aload_n 0, 1) := by decide +kernel
theorem dX12_section_111 : decode cX12_section 111 = .ok (.getfield 18, 3) := by decide +kernel
theorem dX12_section_114 : decode cX12_section 114 = .ok (.arraylength, 1) := by decide +kernel
theorem dX12_section_115 : decode cX12_section 115 = .ok (.iconst 1, 1) := by decide +kernel
theorem dX12_section_116 : decode cX12_section 116 = .ok (.isub, 1) := by decide +kernel
theorem dX12_section_117 : decode cX12_section 117 = .ok (.if_icmp .ne 7, 3) := by decide +kernel
theorem dX12_section_120 : decode cX12_section 120 = .ok (.iconst 1, 1) := by decide +kernel
theorem dX12_section_121 : decode cX12_section 121 = .ok (.goto 4, 3) := by decide +kernel
theorem dX12_section_124 : decode cX12_section 124 = .ok (.iconst 0, 1) := by decide +kernel
theorem dX12_section_125 : decode cX12_section 125 = .ok (.ireturn, 1) := by decide +kernel
def g_X12_section : Nat → EA := (t_n 62 (t_n 34 (t_n 18 (t_n 7 (t_n 4 (t_n 1 (t_l 0 (a_aload 1 0)) (t_l 1 (a_getf 12 4))) (t_n 5 (t_l 4 a_alen) (t_l 5 (a_push 2 (.int 24))))) (t_n 11 (t_n 10 (t_l 7 (a_ic 17 (fun x y => decide (x = y)))) (t_l 10 (a_aload 1 0))) (t_n 14 (t_l 11 (a_getf 12 3)) (t_n 17 (t_l 14 (a_if 19 (fun x => !decide (x = 0)))) (t_l 17 (a_push 1 (.int 1))))))) (t_n 27 (t_n 20 (t_n 19 (t_l 18 a_iret) (t_l 19 (a_aload 1 0))) (t_n 21 (t_l 20 (a_aload 1 0)) (t_n 24 (t_l 21 (a_getf 12 3)) (t_l 24 (a_inv true 200 2 (some 12)))))) (t_n 29 (t_n 28 (t_l 27 (a_istore 4 1 1)) (t_l 28 (a_push 1 (.int 1)))) (t_n 30 (t_l 29 (a_aload 1 0)) (t_n 31 (t_l 30 (a_push 1 (.int 4))) (t_l 31 (a_inv true 200 2 (some 12)))))))) (t_n 49 (t_n 38 (t_n 36 (t_n 35 (t_l 34 (a_ii 1 (fun x y => x <<< (y &&& 31)))) (t_l 35 (a_istore 4 1 2))) (t_n 37 (t_l 36 (a_aload 1 0)) (t_l 37 (a_push 1 (.int 4))))) (t_n 44 (t_n 41 (t_l 38 (a_inv true 200 2 (some 12))) (t_l 41 (a_if 48 (fun x => !decide (x = 0))))) (t_n 45 (t_l 44 (a_push 1 (.int 1))) (t_n 48 (t_l 45 (a_goto 49)) (t_l 48 (a_push 1 (.int 0))))))) (t_n 56 (t_n 51 (t_n 50 (t_l 49 (a_istore 4 1 3)) (t_l 50 (a_aload 1 0))) (t_n 52 (t_l 51 (a_aload 1 0)) (t_n 55 (t_l 52 (a_getf 12 4)) (t_l 55 (a_push 1 (.int 3)))))) (t_n 59 (t_n 58 (t_l 56 (a_newa 0)) (t_l 58 a_dup)) (t_n 60 (t_l 59 (a_push 1 (.int 0))) (t_n 61 (t_l 60 (a_iload 1 1)) (t_l 61 (a_ist 0)))))))) (t_n 95 (t_n 73 (t_n 66 (t_n 64 (t_n 63 (t_l 62 a_dup) (t_l 63 (a_push 1 (.int 1)))) (t_n 65 (t_l 64 (a_iload 1 2)) (t_l 65 (a_ist 0)))) (t_n 68 (t_n 67 (t_l 66 a_dup) (t_l 67 (a_push 1 (.int 2)))) (t_n 69 (t_l 68 (a_iload 1 3)) (t_n 70 (t_l 69 (a_ist 0)) (t_l 70 (a_inv true 201 2 none)))))) (t_n 82 (t_n 77 (t_n 76 (t_l 73 (a_putf 9 12 4)) (t_l 76 (a_aload 1 0))) (t_n 78 (t_l 77 (a_aload 1 0)) (t_n 81 (t_l 78 (a_getf 12 5)) (t_l 81 (a_push 1 (.int 0)))))) (t_n 88 (t_n 85 (t_l 82 (a_newq 3)) (t_l 85 (a_inv true 202 2 none))) (t_n 91 (t_l 88 (a_putf 9 12 5)) (t_n 92 (t_l 91 (a_aload 1 0)) (t_l 92 (a_getf 12 0))))))) (t_n 110 (t_n 99 (t_n 97 (t_n 96 (t_l 95 (a_iload 1 1)) (t_l 96 (a_iload 1 2))) (t_n 98 (t_l 97 (a_iload 1 3)) (t_l 98 (a_push 1 (.int 1))))) (t_n 103 (t_n 102 (t_l 99 (a_ic 106 (fun x y => !decide (x = y)))) (t_l 102 (a_push 1 (.int 1)))) (t_n 106 (t_l 103 (a_goto 107)) (t_n 107 (t_l 106 (a_push 1 (.int 0))) (t_l 107 (a_inv true 160 4 (some 11))))))) (t_n 117 (t_n 114 (t_n 111 (t_l 110 (a_aload 1 0)) (t_l 111 (a_getf 12 4))) (t_n 115 (t_l 114 a_alen) (t_n 116 (t_l 115 (a_push 1 (.int 1))) (t_l 116 (a_ii 1 (fun x y => x - y)))))) (t_n 121 (t_n 120 (t_l 117 (a_ic 124 (fun x y => !decide (x = y)))) (t_l 120 (a_push 1 (.int 1)))) (t_n 124 (t_l 121 (a_goto 125)) (t_n 125 (t_l 124 (a_push 1 (.int 0))) (t_l 125 a_iret))))))))
set_option maxRecDepth 100000 in
theorem k_X12_section (sc : Nat × (Nat → Int32)) (d : Nat) : ∀ pc, ev_Ok cX12_section 4 [] RX12 lw_g lw_n (lw_q sc) vwCl false (ev_CO mt lw_g lw_n (lw_q sc) vwCl d) pc (g_X12_section pc) := (ok_t_n (ok_t_n (ok_t_n (ok_t_n (ok_t_n (ok_t_n (ok_t_l (ok_aload_n dX12_section_0 rfl)) (ok_t_l (ok_getfield dX12_section_1 (ci := 12) (kf := 4) rfl inGX12 (by decide) w_1345))) (ok_t_n (ok_t_l (ok_arraylength dX12_section_4)) (ok_t_l (ok_bipush dX12_section_5 rfl)))) (ok_t_n (ok_t_n (ok_t_l (ok_icmp_eq dX12_section_7 rfl)) (ok_t_l (ok_aload_n dX12_section_10 rfl))) (ok_t_n (ok_t_l (ok_getfield dX12_section_11 (ci := 12) (kf := 3) rfl inGX12 (by decide) w_1344)) (ok_t_n (ok_t_l (ok_if_ne dX12_section_14 rfl)) (ok_t_l (ok_iconst dX12_section_17 rfl)))))) (ok_t_n (ok_t_n (ok_t_n (ok_t_l (ok_ireturn dX12_section_18)) (ok_t_l (ok_aload_n dX12_section_19 rfl))) (ok_t_n (ok_t_l (ok_aload_n dX12_section_20 rfl)) (ok_t_n (ok_t_l (ok_getfield dX12_section_21 (ci := 12) (kf := 3) rfl inGX12 (by decide) w_1344)) (ok_t_l (ok_inv (run_V (y := 200) (n := 1) (ci := 12) dX12_section_24 cz_200 gdG cc_200 ci_200 w_1438 cm_200 cs_200 cd_200 cl_200 rfl rfl)))))) (ok_t_n (ok_t_n (ok_t_l (ok_istore_n dX12_section_27 rfl)) (ok_t_l (ok_iconst dX12_section_28 rfl))) (ok_t_n (ok_t_l (ok_aload_n dX12_section_29 rfl)) (ok_t_n (ok_t_l (ok_iconst dX12_section_30 rfl)) (ok_t_l (ok_inv (run_V (y := 200) (n := 1) (ci := 12) dX12_section_31 cz_200 gdG cc_200 ci_200 w_1438 cm_200 cs_200 cd_200 cl_200 rfl rfl)))))))) (ok_t_n (ok_t_n (ok_t_n (ok_t_n (ok_t_l (ok_ishl dX12_section_34)) (ok_t_l (ok_istore_n dX12_section_35 rfl))) (ok_t_n (ok_t_l (ok_aload_n dX12_section_36 rfl)) (ok_t_l (ok_iconst dX12_section_37 rfl)))) (ok_t_n (ok_t_n (ok_t_l (ok_inv (run_V (y := 200) (n := 1) (ci := 12) dX12_section_38 cz_200 gdG cc_200 ci_200 w_1438 cm_200 cs_200 cd_200 cl_200 rfl rfl))) (ok_t_l (ok_if_ne dX12_section_41 rfl))) (ok_t_n (ok_t_l (ok_iconst dX12_section_44 rfl)) (ok_t_n (ok_t_l (ok_goto dX12_section_45 rfl)) (ok_t_l (ok_iconst dX12_section_48 rfl)))))) (ok_t_n (ok_t_n (ok_t_n (ok_t_l (ok_istore_n dX12_section_49 rfl)) (ok_t_l (ok_aload_n dX12_section_50 rfl))) (ok_t_n (ok_t_l (ok_aload_n dX12_section_51 rfl)) (ok_t_n (ok_t_l (ok_getfield dX12_section_52 (ci := 12) (kf := 4) rfl inGX12 (by decide) w_1345)) (ok_t_l (ok_iconst dX12_section_55 rfl))))) (ok_t_n (ok_t_n (ok_t_l (ok_newint dX12_section_56 w_614)) (ok_t_l (ok_dup dX12_section_58))) (ok_t_n (ok_t_l (ok_iconst dX12_section_59 rfl)) (ok_t_n (ok_t_l (ok_iload_n dX12_section_60 rfl)) (ok_t_l (ok_iastore dX12_section_61)))))))) (ok_t_n (ok_t_n (ok_t_n (ok_t_n (ok_t_n (ok_t_l (ok_dup dX12_section_62)) (ok_t_l (ok_iconst dX12_section_63 rfl))) (ok_t_n (ok_t_l (ok_iload_n dX12_section_64 rfl)) (ok_t_l (ok_iastore dX12_section_65)))) (ok_t_n (ok_t_n (ok_t_l (ok_dup dX12_section_66)) (ok_t_l (ok_iconst dX12_section_67 rfl))) (ok_t_n (ok_t_l (ok_iload_n dX12_section_68 rfl)) (ok_t_n (ok_t_l (ok_iastore dX12_section_69)) (ok_t_l (ok_inv (run_S (y := 201) (n := 2) dX12_section_70 cz_201 gdG cc_201 ci_201 w_1439 cm_201 cd_201 cl_201))))))) (ok_t_n (ok_t_n (ok_t_n (ok_t_l (ok_putfield dX12_section_73 (ci := 12) (kf := 4) rfl inGX12 (by decide) tyX12_ok nmX12 rfl w_1345 rfl)) (ok_t_l (ok_aload_n dX12_section_76 rfl))) (ok_t_n (ok_t_l (ok_aload_n dX12_section_77 rfl)) (ok_t_n (ok_t_l (ok_getfield dX12_section_78 (ci := 12) (kf := 5) rfl inGX12 (by decide) w_1347)) (ok_t_l (ok_iconst dX12_section_81 rfl))))) (ok_t_n (ok_t_n (ok_t_l (ok_anewq (ft := .int) dX12_section_82 (by decide) (by decide) rfl w_1334 (by decide))) (ok_t_l (ok_inv (run_S (y := 202) (n := 2) dX12_section_85 cz_202 gdG cc_202 ci_202 w_1535 cm_202 cd_202 cl_202)))) (ok_t_n (ok_t_l (ok_putfield dX12_section_88 (ci := 12) (kf := 5) rfl inGX12 (by decide) tyX12_ok nmX12 rfl w_1347 rfl)) (ok_t_n (ok_t_l (ok_aload_n dX12_section_91 rfl)) (ok_t_l (ok_getfield dX12_section_92 (ci := 12) (kf := 0) rfl inGX12 (by decide) w_1340))))))) (ok_t_n (ok_t_n (ok_t_n (ok_t_n (ok_t_l (ok_iload_n dX12_section_95 rfl)) (ok_t_l (ok_iload_n dX12_section_96 rfl))) (ok_t_n (ok_t_l (ok_iload_n dX12_section_97 rfl)) (ok_t_l (ok_iconst dX12_section_98 rfl)))) (ok_t_n (ok_t_n (ok_t_l (ok_icmp_ne dX12_section_99 rfl)) (ok_t_l (ok_iconst dX12_section_102 rfl))) (ok_t_n (ok_t_l (ok_goto dX12_section_103 rfl)) (ok_t_n (ok_t_l (ok_iconst dX12_section_106 rfl)) (ok_t_l (ok_inv (run_V (y := 160) (n := 3) (ci := 11) dX12_section_107 cz_160 gdG cc_160 ci_160 w_1536 cm_160 cs_160 cd_160 cl_160 rfl rfl))))))) (ok_t_n (ok_t_n (ok_t_n (ok_t_l (ok_aload_n dX12_section_110 rfl)) (ok_t_l (ok_getfield dX12_section_111 (ci := 12) (kf := 4) rfl inGX12 (by decide) w_1345))) (ok_t_n (ok_t_l (ok_arraylength dX12_section_114)) (ok_t_n (ok_t_l (ok_iconst dX12_section_115 rfl)) (ok_t_l (ok_isub dX12_section_116))))) (ok_t_n (ok_t_n (ok_t_l (ok_icmp_ne dX12_section_117 rfl)) (ok_t_l (ok_iconst dX12_section_120 rfl))) (ok_t_n (ok_t_l (ok_goto dX12_section_121 rfl)) (ok_t_n (ok_t_l (ok_iconst dX12_section_124 rfl)) (ok_t_l (ok_ireturn dX12_section_125)))))))))
theorem dX12_piece_0 : decode cX12_piece 0 = .ok (.aload_n 0, 1) := by decide +kernel
theorem dX12_piece_1 : decode cX12_piece 1 = .ok (.getfield 18, 3) := by decide +kernel
theorem dX12_piece_4 : decode cX12_piece 4 = .ok (.arraylength, 1) := by decide +kernel
theorem dX12_piece_5 : decode cX12_piece 5 = .ok (.ifCond .ne 5, 3) := by decide +kernel
theorem dX12_piece_8 : decode cX12_piece 8 = .ok (.iconst 1, 1) := by decide +kernel
theorem dX12_piece_9 : decode cX12_piece 9 = .ok (.ireturn, 1) := by decide +kernel
theorem dX12_piece_10 : decode cX12_piece 10 = .ok (.aload_n 0, 1) := by decide +kernel
theorem dX12_piece_11 : decode cX12_piece 11 = .ok (.aload_n 0, 1) := by decide +kernel
theorem dX12_piece_12 : decode cX12_piece 12 = .ok (.getfield 18, 3) := by decide +kernel
theorem dX12_piece_15 : decode cX12_piece 15 = .ok (.arraylength, 1) := by decide +kernel
theorem dX12_piece_16 : decode cX12_piece 16 = .ok (.invokevirtual 101, 3) := by decide +kernel
theorem dX12_piece_19 : decode cX12_piece 19 = .ok (.istore_n 1, 1) := by decide +kernel
theorem dX12_piece_20 : decode cX12_piece 20 = .ok (.aload_n 0, 1) := by decide +kernel
theorem dX12_piece_21 : decode cX12_piece 21 = .ok (.getfield 23, 3) := by decide +kernel
theorem dX12_piece_24 : decode cX12_piece 24 = .ok (.iload_n 1, 1) := by decide +kernel
theorem dX12_piece_25 : decode cX12_piece 25 = .ok (.aaload, 1) := by decide +kernel
theorem dX12_piece_26 : decode cX12_piece 26 = .ok (.arraylength, 1) := by decide +kernel
theorem dX12_piece_27 : decode cX12_piece 27 = .ok (.bipush 8, 2) := by decide +kernel
theorem dX12_piece_29 : decode cX12_piece 29 = .ok (.if_icmp .ne 5, 3) := by decide +kernel
theorem dX12_piece_32 : decode cX12_piece 32 = .ok (.iconst 1, 1) := by decide +kernel
theorem dX12_piece_33 : decode cX12_piece 33 = .ok (.ireturn, 1) := by decide +kernel
theorem dX12_piece_34 : decode cX12_piece 34 = .ok (.aload_n 0, 1) := by decide +kernel
theorem dX12_piece_35 : decode cX12_piece 35 = .ok (.bipush 8, 2) := by decide +kernel
theorem dX12_piece_37 : decode cX12_piece 37 = .ok (.invokevirtual 101, 3) := by decide +kernel
theorem dX12_piece_40 : decode cX12_piece 40 = .ok (.istore_n 2, 1) := by decide +kernel
theorem dX12_piece_41 : decode cX12_piece 41 = .ok (.aload_n 0, 1) := by decide +kernel
theorem dX12_piece_42 : decode cX12_piece 42 = .ok (.iconst 5, 1) := by decide +kernel
theorem dX12_piece_43 : decode cX12_piece 43 = .ok (.invokevirtual 101, 3) := by decide +kernel
theorem dX12_piece_46 : decode cX12_piece 46 = .ok (.ifCond .ne 7, 3) := by decide +kernel
theorem dX12_piece_49 : decode cX12_piece 49 = .ok (.iconst 1, 1) := by decide +kernel
theorem dX12_piece_50 : decode cX12_piece 50 = .ok (.goto 4, 3) := by decide +kernel
theorem dX12_piece_53 : decode cX12_piece 53 = .ok (.iconst 0, 1) := by decide +kernel
theorem dX12_piece_54 : decode cX12_piece 54 = .ok (.istore_n 3, 1) := by decide +kernel
theorem dX12_piece_55 : decode cX12_piece 55 = .ok (.aload_n 0, 1) := by decide +kernel
theorem dX12_piece_56 : decode cX12_piece 56 = .ok (.iconst 3, 1) := by decide +kernel
theorem dX12_piece_57 : decode cX12_piece 57 = .ok (.invokevirtual 101, 3) := by decide +kernel
theorem dX12_piece_60 : decode cX12_piece 60 = .ok (.istore 4, 2) := by decide +kernel
theorem dX12_piece_62 : decode cX12_piece 62 = .ok (.iconst 1, 1) := by decide +kernel
theorem dX12_piece_63 : decode cX12_piece 63 = .ok (.aload_n 0, 1) := by decide +kernel
theorem dX12_piece_64 : decode cX12_piece 64 = .ok (.bipush 12, 2) := by decide +kernel
theorem dX12_piece_66 : decode cX12_piece 66 = .ok (.invokevirtual 101, 3) := by decide +kernel
theorem dX12_piece_69 : decode cX12_piece 69 = .ok (.iadd, 1) := by decide +kernel
theorem dX12_piece_70 : decode cX12_piece 70 = .ok (.istore 5, 2) := by decide +kernel
theorem dX12_piece_72 : decode cX12_piece 72 = .ok (.aload_n 0, 1) := by decide +kernel
theorem dX12_piece_73 : decode cX12_piece 73 = .ok (.bipush 21, 2) := by decide +kernel
theorem dX12_piece_75 : decode cX12_piece 75 = .ok (.invokevirtual 101, 3) := by decide +kernel
theorem dX12_piece_78 : decode cX12_piece 78 = .ok (.bipush 10, 2) := by decide +kernel
theorem dX12_piece_80 : decode cX12_piece 80 = .ok (.isub, 1) := by decide +kernel
theorem dX12_piece_81 : decode cX12_piece 81 = .ok (.istore 6, 2) := by decide +kernel
theorem dX12_piece_83 : decode cX12_piece 83 = .ok (.iload 4, 2) := by decide +kernel
theorem dX12_piece_85 : decode cX12_piece 85 = .ok (.ifCond .ne 41, 3) := by decide +kernel
theorem dX12_piece_88 : decode cX12_piece 88 = .ok (.aload_n 0, 1) := by decide +kernel
theorem dX12_piece_89 : decode cX12_piece 89 = .ok (.getfield 23, 3) := by decide +kernel
theorem dX12_piece_92 : decode cX12_piece 92 = .ok (.iload_n 1, 1) := by decide +kernel
theorem dX12_piece_93 : decode cX12_piece 93 = .ok (.aload_n 0, 1) := by decide +kernel
theorem dX12_piece_94 : decode cX12_piece 94 = .ok (.getfield 23, 3) := by decide +kernel
theorem dX12_piece_97 : decode cX12_piece 97 = .ok (.iload_n 1, 1) := by decide +kernel
theorem dX12_piece_98 : decode cX12_piece 98 = .ok (.aaload, 1) := by decide +kernel
theorem dX12_piece_99 : decode cX12_piece 99 = .ok (.iconst 4, 1) := by decide +kernel
theorem dX12_piece_100 : decode cX12_piece 100 = .ok (.newarray .int, 2) := by decide +kernel
theorem dX12_piece_102 : decode cX12_piece 102 = .ok (.dup, 1) := by decide +kernel
theorem dX12_piece_103 : decode cX12_piece 103 = .ok (.iconst 0, 1) := by decide +kernel
theorem dX12_piece_104 : decode cX12_piece 104 = .ok (.iconst 0, 1) := by decide +kernel
theorem dX12_piece_105 : decode cX12_piece 105 = .ok (.iastore, 1) := by decide +kernel
theorem dX12_piece_106 : decode cX12_piece 106 = .ok (.dup, 1) := by decide +kernel
theorem dX12_piece_107 : decode cX12_piece 107 = .ok (.iconst 1, 1) := by decide +kernel
theorem dX12_piece_108 : decode cX12_piece 108 = .ok (.iload 5, 2) := by decide +kernel
theorem dX12_piece_110 : decode cX12_piece 110 = .ok (.iastore, 1) := by decide +kernel
theorem dX12_piece_111 : decode cX12_piece 111 = .ok (.dup, 1) := by decide +kernel
theorem dX12_piece_112 : decode cX12_piece 112 = .ok (.iconst 2, 1) := by decide +kernel
theorem dX12_piece_113 : decode cX12_piece 113 = .ok (.iconst 0, 1) := by decide +kernel
theorem dX12_piece_114 : decode cX12_piece 114 = .ok (.iastore, 1) := by decide +kernel
theorem dX12_piece_115 : decode cX12_piece 115 = .ok (.dup, 1) := by decide +kernel
theorem dX12_piece_116 : decode cX12_piece 116 = .ok (.iconst 3, 1) := by decide +kernel
theorem dX12_piece_117 : decode cX12_piece 117 = .ok (.iconst 0, 1) := by decide +kernel
theorem dX12_piece_118 : decode cX12_piece 118 = .ok (.iastore, 1) := by decide +kernel
theorem dX12_piece_119 : decode cX12_piece 119 = .ok (.invokestatic 105, 3) := by decide +kernel
theorem dX12_piece_122 : decode cX12_piece 122 = .ok (.aastore, 1) := by decide +kernel
theorem dX12_piece_123 : decode cX12_piece 123 = .ok (.goto 49, 3) := by decide +kernel
theorem dX12_piece_126 : decode cX12_piece 126 = .ok (.aload_n 0, 1) := by decide +kernel
theorem dX12_piece_127 : decode cX12_piece 127 = .ok (.getfield 23, 3) := by decide +kernel
theorem dX12_piece_130 : decode cX12_piece 130 = .ok (.iload_n 1, 1) := by decide +kernel
theorem dX12_piece_131 : decode cX12_piece 131 = .ok (.aload_n 0, 1) := by decide +kernel
theorem dX12_piece_132 : decode cX12_piece 132 = .ok (.getfield 23, 3) := by decide +kernel
theorem dX12_piece_135 : decode cX12_piece 135 = .ok (.iload_n 1, 1) := by decide +kernel
theorem dX12_piece_136 : decode cX12_piece 136 = .ok (.aaload, 1) := by decide +kernel
theorem dX12_piece_137 : decode cX12_piece 137 = .ok (.iconst 4, 1) := by decide +kernel
theorem dX12_piece_138 : decode cX12_piece 138 = .ok (.newarray .int, 2) := by decide +kernel
theorem dX12_piece_140 : decode cX12_piece 140 = .ok (.dup, 1) := by decide +kernel
theorem dX12_piece_141 : decode cX12_piece 141 = .ok (.iconst 0, 1) := by decide +kernel
theorem dX12_piece_142 : decode cX12_piece 142 = .ok (.iload 4, 2) := by decide +kernel
theorem dX12_piece_144 : decode cX12_piece 144 = .ok (.iastore, 1) := by decide +kernel
theorem dX12_piece_145 : decode cX12_piece 145 = .ok (.dup, 1) := by decide +kernel
theorem dX12_piece_146 : decode cX12_piece 146 = .ok (.iconst 1, 1) := by decide +kernel
theorem dX12_piece_147 : decode cX12_piece 147 = .ok (.iload_n 2, 1) := by decide +kernel
theorem dX12_piece_148 : decode cX12_piece 148 = .ok (.iastore, 1) := by decide +kernel
theorem dX12_piece_149 : decode cX12_piece 149 = .ok (.dup, 1) := by decide +kernel
theorem dX12_piece_150 : decode cX12_piece 150 = .ok (.iconst 2, 1) := by decide +kernel
theorem dX12_piece_151 : decode cX12_piece 151 = .ok (.iload 4, 2) := by decide +kernel
theorem dX12_piece_153 : decode cX12_piece 153 = .ok (.iconst 1, 1) := by decide +kernel
theorem dX12_piece_154 : decode cX12_piece 154 = .ok (.if_icmp .ne 8, 3) := by decide +kernel
theorem dX12_piece_157 : decode cX12_piece 157 = .ok (.iload 6, 2) := by decide +kernel
theorem dX12_piece_159 : decode cX12_piece 159 = .ok (.goto 4, 3) := by decide +kernel
theorem dX12_piece_162 : decode cX12_piece 162 = .ok (.iconst 0, 1) := by decide +kernel
theorem dX12_piece_163 : decode cX12_piece 163 = .ok (.iastore, 1) := by decide +kernel
theorem dX12_piece_164 : decode cX12_piece 164 = .ok (.dup, 1) := by decide +kernel
theorem dX12_piece_165 : decode cX12_piece 165 = .ok (.iconst 3, 1) := by decide +kernel
theorem dX12_piece_166 : decode cX12_piece 166 = .ok (.iload_n 3, 1) := by decide +kernel
theorem dX12_piece_167 : decode cX12_piece 167 = .ok (.iastore, 1) := by decide +kernel
theorem dX12_piece_168 : decode cX12_piece 168 = .ok (.invokestatic 105, 3) := by decide +kernel
theorem dX12_piece_171 : decode cX12_piece 171 = .ok (.aastore, 1) := by decide +kernel
theorem dX12_piece_172 : decode cX12_piece 172 = .ok (.iload 4, 2) := by decide +kernel
theorem dX12_piece_174 : decode cX12_piece 174 = .ok (.ifCond .ne 16, 3) := by decide +kernel
theorem dX12_piece_177 : decode cX12_piece 177 = .ok (.aload_n 0, 1) := by decide +kernel
theorem dX12_piece_178 : decode cX12_piece 178 = .ok (.getfield 10, 3) := by decide +kernel
theorem dX12_piece_181 : decode cX12_piece 181 = .ok (.iload_n 1, 1) := by decide +kernel
theorem dX12_piece_182 : decode cX12_piece 182 = .ok (.iload 5, 2) := by decide +kernel
theorem dX12_piece_184 : decode cX12_piece 184 = .ok (.invokevirtual 117, 3) := by decide +kernel
theorem dX12_piece_187 : decode cX12_piece 187 = .ok (.goto 52, 3) := by decide +kernel
theorem dX12_piece_190 : decode cX12_piece 190 = .ok (.iload 4, 2) := by decide +kernel
theorem dX12_piece_192 : decode cX12_piece 192 = .ok (.iconst 1, 1) := by decide +kernel
theorem dX12_piece_193 : decode cX12_piece 193 = .ok (.if_icmp .ne 27, 3) := by decide +kernel
theorem dX12_piece_196 : decode cX12_piece 196 = .ok (.aload_n 0, 1) := by decide +kernel
theorem dX12_piece_197 : decode cX12_piece 197 = .ok (.getfield 10, 3) := by decide +kernel
theorem dX12_piece_200 : decode cX12_piece 200 = .ok (.iload_n 1, 1) := by decide +kernel
theorem dX12_piece_201 : decode cX12_piece 201 = .ok (.iload_n 2, 1) := by decide +kernel
theorem dX12_piece_202 : decode cX12_piece 202 = .ok (.iload 6, 2) := by decide +kernel
theorem dX12_piece_204 : decode cX12_piece 204 = .ok (.iload_n 3, 1) := by decide +kernel
theorem dX12_piece_205 : decode cX12_piece 205 = .ok (.iconst 1, 1) := by decide +kernel
theorem dX12_piece_206 : decode cX12_piece 206 = .ok (.if_icmp .ne 7, 3) := by decide +kernel
theorem dX12_piece_209 : decode cX12_piece 209 = .ok (.iconst 1, 1) := by decide +kernel
theorem dX12_piece_210 : decode cX12_piece 210 = .ok (.goto 4, 3) := by decide +kernel
theorem dX12_piece_213 : decode cX12_piece 213 = .ok (.iconst 0, 1) := by decide +kernel
theorem dX12_piece_214 : decode cX12_piece 214 = .ok (.invokevirtual 120, 3) := by decide +kernel
theorem dX12_piece_217 : decode cX12_piece 217 = .ok (.goto 22, 3) := by decide +kernel
theorem dX12_piece_220 : decode cX12_piece 220 = .ok (.aload_n 0, 1) := by decide +kernel
theorem dX12_piece_221 : decode cX12_piece 221 = .ok (.getfield 10, 3) := by decide +kernel
theorem dX12_piece_224 : decode cX12_piece 224 = .ok (.iload_n 1, 1) := by decide +kernel
theorem dX12_piece_225 : decode cX12_piece 225 = .ok (.iload_n 2, 1) := by decide +kernel
theorem dX12_piece_226 : decode cX12_piece 226 = .ok (.iload_n 3, 1) := by decide +kernel
theorem dX12_piece_227 : decode cX12_piece 227 = .ok (.iconst 1, 1) := by decide +kernel
theorem dX12_piece_228 : decode cX12_piece 228 = .ok (.if_icmp .ne 7, 3) := by decide +kernel
theorem dX12_piece_231 : decode cX12_piece 231 = .ok (.iconst 1, 1) := by decide +kernel
theorem dX12_piece_232 : decode cX12_piece 232 = .ok (.goto 4, 3) := by decide +kernel
theorem dX12_piece_235 : decode cX12_piece 235 = .ok (.iconst 0, 1) := by decide +kernel
theorem dX12_piece_236 : decode cX12_piece 236 = .ok (.invokevirtual 124, 3) := by decide +kernel
theorem dX12_piece_239 : decode cX12_piece 239 = .ok (.istore 7, 2) := by decide +kernel
theorem dX12_piece_241 : decode cX12_piece 241 = .ok (.iload 7, 2) := by decide +kernel
theorem dX12_piece_243 : decode cX12_piece 243 = .ok (.aload_n 0, 1) := by decide +kernel
theorem dX12_piece_244 : decode cX12_piece 244 = .ok (.getfield 23, 3) := by decide +kernel
theorem dX12_piece_247 : decode cX12_piece 247 = .ok (.iload_n 1, 1) := by decide +kernel
theorem dX12_piece_248 : decode cX12_piece 248 = .ok (.aaload, 1) := by decide +kernel
theorem dX12_piece_249 : decode cX12_piece 249 = .ok (.arraylength, 1) := by decide +kernel
theorem dX12_piece_250 : decode cX12_piece 250 = .ok (.iconst 1, 1) := by decide +kernel
theorem dX12_piece_251 : decode cX12_piece 251 = .ok (.isub, 1) := by decide +kernel
theorem dX12_piece_252 : decode cX12_piece 252 = .ok (.if_icmp .ne 7, 3) := by decide +kernel
theorem dX12_piece_255 : decode cX12_piece 255 = .ok (.iconst 1, 1) := by decide +kernel
theorem dX12_piece_256 : decode cX12_piece 256 = .ok (.goto 4, 3) := by decide +kernel
theorem dX12_piece_259 : decode cX12_piece 259 = .ok (.iconst 0, 1) := by decide +kernel
theorem dX12_piece_260 : decode cX12_piece 260 = .ok (.ireturn, 1) := by decide +kernel
def g_X12_piece : Nat → EA := (t_n 127 (t_n 66 (t_n 33 (t_n 16 (t_n 9 (t_n 4 (t_n 1 (t_l 0 (a_aload 1 0)) (t_l 1 (a_getf 12 4))) (t_n 5 (t_l 4 a_alen) (t_n 8 (t_l 5 (a_if 10 (fun x => !decide (x = 0)))) (t_l 8 (a_push 1 (.int 1)))))) (t_n 11 (t_n 10 (t_l 9 a_iret) (t_l 10 (a_aload 1 0))) (t_n 12 (t_l 11 (a_aload 1 0)) (t_n 15 (t_l 12 (a_getf 12 4)) (t_l 15 a_alen))))) (t_n 25 (t_n 20 (t_n 19 (t_l 16 (a_inv true 200 2 (some 12))) (t_l 19 (a_istore 8 1 1))) (t_n 21 (t_l 20 (a_aload 1 0)) (t_n 24 (t_l 21 (a_getf 12 5)) (t_l 24 (a_iload 1 1))))) (t_n 27 (t_n 26 (t_l 25 a_ald) (t_l 26 a_alen)) (t_n 29 (t_l 27 (a_push 2 (.int 8))) (t_n 32 (t_l 29 (a_ic 34 (fun x y => !decide (x = y)))) (t_l 32 (a_push 1 (.int 1)))))))) (t_n 50 (t_n 41 (t_n 35 (t_n 34 (t_l 33 a_iret) (t_l 34 (a_aload 1 0))) (t_n 37 (t_l 35 (a_push 2 (.int 8))) (t_n 40 (t_l 37 (a_inv true 200 2 (some 12))) (t_l 40 (a_istore 8 1 2))))) (t_n 43 (t_n 42 (t_l 41 (a_aload 1 0)) (t_l 42 (a_push 1 (.int 5)))) (t_n 46 (t_l 43 (a_inv true 200 2 (some 12))) (t_n 49 (t_l 46 (a_if 53 (fun x => !decide (x = 0)))) (t_l 49 (a_push 1 (.int 1))))))) (t_n 57 (t_n 54 (t_n 53 (t_l 50 (a_goto 54)) (t_l 53 (a_push 1 (.int 0)))) (t_n 55 (t_l 54 (a_istore 8 1 3)) (t_n 56 (t_l 55 (a_aload 1 0)) (t_l 56 (a_push 1 (.int 3)))))) (t_n 62 (t_n 60 (t_l 57 (a_inv true 200 2 (some 12))) (t_l 60 (a_istore 8 2 4))) (t_n 63 (t_l 62 (a_push 1 (.int 1))) (t_n 64 (t_l 63 (a_aload 1 0)) (t_l 64 (a_push 2 (.int 12))))))))) (t_n 102 (t_n 85 (t_n 75 (t_n 70 (t_n 69 (t_l 66 (a_inv true 200 2 (some 12))) (t_l 69 (a_ii 1 (fun x y => x + y)))) (t_n 72 (t_l 70 (a_istore 8 2 5)) (t_n 73 (t_l 72 (a_aload 1 0)) (t_l 73 (a_push 2 (.int 21)))))) (t_n 80 (t_n 78 (t_l 75 (a_inv true 200 2 (some 12))) (t_l 78 (a_push 2 (.int 10)))) (t_n 81 (t_l 80 (a_ii 1 (fun x y => x - y))) (t_n 83 (t_l 81 (a_istore 8 2 6)) (t_l 83 (a_iload 2 4)))))) (t_n 94 (t_n 89 (t_n 88 (t_l 85 (a_if 126 (fun x => !decide (x = 0)))) (t_l 88 (a_aload 1 0))) (t_n 92 (t_l 89 (a_getf 12 5)) (t_n 93 (t_l 92 (a_iload 1 1)) (t_l 93 (a_aload 1 0))))) (t_n 98 (t_n 97 (t_l 94 (a_getf 12 5)) (t_l 97 (a_iload 1 1))) (t_n 99 (t_l 98 a_ald) (t_n 100 (t_l 99 (a_push 1 (.int 4))) (t_l 100 (a_newa 0))))))) (t_n 113 (t_n 107 (t_n 104 (t_n 103 (t_l 102 a_dup) (t_l 103 (a_push 1 (.int 0)))) (t_n 105 (t_l 104 (a_push 1 (.int 0))) (t_n 106 (t_l 105 (a_ist 0)) (t_l 106 a_dup)))) (t_n 110 (t_n 108 (t_l 107 (a_push 1 (.int 1))) (t_l 108 (a_iload 2 5))) (t_n 111 (t_l 110 (a_ist 0)) (t_n 112 (t_l 111 a_dup) (t_l 112 (a_push 1 (.int 2))))))) (t_n 118 (t_n 115 (t_n 114 (t_l 113 (a_push 1 (.int 0))) (t_l 114 (a_ist 0))) (t_n 116 (t_l 115 a_dup) (t_n 117 (t_l 116 (a_push 1 (.int 3))) (t_l 117 (a_push 1 (.int 0)))))) (t_n 122 (t_n 119 (t_l 118 (a_ist 0)) (t_l 119 (a_inv true 201 2 none))) (t_n 123 (t_l 122 a_ast) (t_n 126 (t_l 123 (a_goto 172)) (t_l 126 (a_aload 1 0))))))))) (t_n 192 (t_n 154 (t_n 142 (t_n 136 (t_n 131 (t_n 130 (t_l 127 (a_getf 12 5)) (t_l 130 (a_iload 1 1))) (t_n 132 (t_l 131 (a_aload 1 0)) (t_n 135 (t_l 132 (a_getf 12 5)) (t_l 135 (a_iload 1 1))))) (t_n 138 (t_n 137 (t_l 136 a_ald) (t_l 137 (a_push 1 (.int 4)))) (t_n 140 (t_l 138 (a_newa 0)) (t_n 141 (t_l 140 a_dup) (t_l 141 (a_push 1 (.int 0))))))) (t_n 148 (t_n 145 (t_n 144 (t_l 142 (a_iload 2 4)) (t_l 144 (a_ist 0))) (t_n 146 (t_l 145 a_dup) (t_n 147 (t_l 146 (a_push 1 (.int 1))) (t_l 147 (a_iload 1 2))))) (t_n 150 (t_n 149 (t_l 148 (a_ist 0)) (t_l 149 a_dup)) (t_n 151 (t_l 150 (a_push 1 (.int 2))) (t_n 153 (t_l 151 (a_iload 2 4)) (t_l 153 (a_push 1 (.int 1)))))))) (t_n 171 (t_n 164 (t_n 159 (t_n 157 (t_l 154 (a_ic 162 (fun x y => !decide (x = y)))) (t_l 157 (a_iload 2 6))) (t_n 162 (t_l 159 (a_goto 163)) (t_n 163 (t_l 162 (a_push 1 (.int 0))) (t_l 163 (a_ist 0))))) (t_n 166 (t_n 165 (t_l 164 a_dup) (t_l 165 (a_push 1 (.int 3)))) (t_n 167 (t_l 166 (a_iload 1 3)) (t_n 168 (t_l 167 (a_ist 0)) (t_l 168 (a_inv true 201 2 none)))))) (t_n 181 (t_n 174 (t_n 172 (t_l 171 a_ast) (t_l 172 (a_iload 2 4))) (t_n 177 (t_l 174 (a_if 190 (fun x => !decide (x = 0)))) (t_n 178 (t_l 177 (a_aload 1 0)) (t_l 178 (a_getf 12 0))))) (t_n 184 (t_n 182 (t_l 181 (a_iload 1 1)) (t_l 182 (a_iload 2 5))) (t_n 187 (t_l 184 (a_inv true 161 3 (some 11))) (t_n 190 (t_l 187 (a_goto 239)) (t_l 190 (a_iload 2 4)))))))) (t_n 227 (t_n 209 (t_n 201 (t_n 196 (t_n 193 (t_l 192 (a_push 1 (.int 1))) (t_l 193 (a_ic 220 (fun x y => !decide (x = y))))) (t_n 197 (t_l 196 (a_aload 1 0)) (t_n 200 (t_l 197 (a_getf 12 0)) (t_l 200 (a_iload 1 1))))) (t_n 204 (t_n 202 (t_l 201 (a_iload 1 2)) (t_l 202 (a_iload 2 6))) (t_n 205 (t_l 204 (a_iload 1 3)) (t_n 206 (t_l 205 (a_push 1 (.int 1))) (t_l 206 (a_ic 213 (fun x y => !decide (x = y)))))))) (t_n 220 (t_n 213 (t_n 210 (t_l 209 (a_push 1 (.int 1))) (t_l 210 (a_goto 214))) (t_n 214 (t_l 213 (a_push 1 (.int 0))) (t_n 217 (t_l 214 (a_inv true 162 5 (some 11))) (t_l 217 (a_goto 239))))) (t_n 224 (t_n 221 (t_l 220 (a_aload 1 0)) (t_l 221 (a_getf 12 0))) (t_n 225 (t_l 224 (a_iload 1 1)) (t_n 226 (t_l 225 (a_iload 1 2)) (t_l 226 (a_iload 1 3))))))) (t_n 247 (t_n 236 (t_n 231 (t_n 228 (t_l 227 (a_push 1 (.int 1))) (t_l 228 (a_ic 235 (fun x y => !decide (x = y))))) (t_n 232 (t_l 231 (a_push 1 (.int 1))) (t_n 235 (t_l 232 (a_goto 236)) (t_l 235 (a_push 1 (.int 0)))))) (t_n 241 (t_n 239 (t_l 236 (a_inv true 163 4 (some 11))) (t_l 239 (a_istore 8 2 7))) (t_n 243 (t_l 241 (a_iload 2 7)) (t_n 244 (t_l 243 (a_aload 1 0)) (t_l 244 (a_getf 12 5)))))) (t_n 252 (t_n 249 (t_n 248 (t_l 247 (a_iload 1 1)) (t_l 248 a_ald)) (t_n 250 (t_l 249 a_alen) (t_n 251 (t_l 250 (a_push 1 (.int 1))) (t_l 251 (a_ii 1 (fun x y => x - y)))))) (t_n 256 (t_n 255 (t_l 252 (a_ic 259 (fun x y => !decide (x = y)))) (t_l 255 (a_push 1 (.int 1)))) (t_n 259 (t_l 256 (a_goto 260)) (t_n 260 (t_l 259 (a_push 1 (.int 0))) (t_l 260 a_iret)))))))))
set_option maxRecDepth 100000 in
theorem k_X12_piece (sc : Nat × (Nat → Int32)) (d : Nat) : ∀ pc, ev_Ok cX12_piece 8 [] RX12 lw_g lw_n (lw_q sc) vwCl false (ev_CO mt lw_g lw_n (lw_q sc) vwCl d) pc (g_X12_piece pc) := (ok_t_n (ok_t_n (ok_t_n (ok_t_n (ok_t_n (ok_t_n (ok_t_n (ok_t_l (ok_aload_n dX12_piece_0 rfl)) (ok_t_l (ok_getfield dX12_piece_1 (ci := 12) (kf := 4) rfl inGX12 (by decide) w_1345))) (ok_t_n (ok_t_l (ok_arraylength dX12_piece_4)) (ok_t_n (ok_t_l (ok_if_ne dX12_piece_5 rfl)) (ok_t_l (ok_iconst dX12_piece_8 rfl))))) (ok_t_n (ok_t_n (ok_t_l (ok_ireturn dX12_piece_9)) (ok_t_l (ok_aload_n dX12_piece_10 rfl))) (ok_t_n (ok_t_l (ok_aload_n dX12_piece_11 rfl)) (ok_t_n (ok_t_l (ok_getfield dX12_piece_12 (ci := 12) (kf := 4) rfl inGX12 (by decide) w_1345)) (ok_t_l (ok_arraylength dX12_piece_15)))))) (ok_t_n (ok_t_n (ok_t_n (ok_t_l (ok_inv (run_V (y := 200) (n := 1) (ci := 12) dX12_piece_16 cz_200 gdG cc_200 ci_200 w_1438 cm_200 cs_200 cd_200 cl_200 rfl rfl))) (ok_t_l (ok_istore_n dX12_piece_19 rfl))) (ok_t_n (ok_t_l (ok_aload_n dX12_piece_20 rfl)) (ok_t_n (ok_t_l (ok_getfield dX12_piece_21 (ci := 12) (kf := 5) rfl inGX12 (by decide) w_1347)) (ok_t_l (ok_iload_n dX12_piece_24 rfl))))) (ok_t_n (ok_t_n (ok_t_l (ok_aaload dX12_piece_25)) (ok_t_l (ok_arraylength dX12_piece_26))) (ok_t_n (ok_t_l (ok_bipush dX12_piece_27 rfl)) (ok_t_n (ok_t_l (ok_icmp_ne dX12_piece_29 rfl)) (ok_t_l (ok_iconst dX12_piece_32 rfl))))))) (ok_t_n (ok_t_n (ok_t_n (ok_t_n (ok_t_l (ok_ireturn dX12_piece_33)) (ok_t_l (ok_aload_n dX12_piece_34 rfl))) (ok_t_n (ok_t_l (ok_bipush dX12_piece_35 rfl)) (ok_t_n (ok_t_l (ok_inv (run_V (y := 200) (n := 1) (ci := 12) dX12_piece_37 cz_200 gdG cc_200 ci_200 w_1438 cm_200 cs_200 cd_200 cl_200 rfl rfl))) (ok_t_l (ok_istore_n dX12_piece_40 rfl))))) (ok_t_n (ok_t_n (ok_t_l (ok_aload_n dX12_piece_41 rfl)) (ok_t_l (ok_iconst dX12_piece_42 rfl))) (ok_t_n (ok_t_l (ok_inv (run_V (y := 200) (n := 1) (ci := 12) dX12_piece_43 cz_200 gdG cc_200 ci_200 w_1438 cm_200 cs_200 cd_200 cl_200 rfl rfl))) (ok_t_n (ok_t_l (ok_if_ne dX12_piece_46 rfl)) (ok_t_l (ok_iconst dX12_piece_49 rfl)))))) (ok_t_n (ok_t_n (ok_t_n (ok_t_l (ok_goto dX12_piece_50 rfl)) (ok_t_l (ok_iconst dX12_piece_53 rfl))) (ok_t_n (ok_t_l (ok_istore_n dX12_piece_54 rfl)) (ok_t_n (ok_t_l (ok_aload_n dX12_piece_55 rfl)) (ok_t_l (ok_iconst dX12_piece_56 rfl))))) (ok_t_n (ok_t_n (ok_t_l (ok_inv (run_V (y := 200) (n := 1) (ci := 12) dX12_piece_57 cz_200 gdG cc_200 ci_200 w_1438 cm_200 cs_200 cd_200 cl_200 rfl rfl))) (ok_t_l (ok_istore dX12_piece_60))) (ok_t_n (ok_t_l (ok_iconst dX12_piece_62 rfl)) (ok_t_n (ok_t_l (ok_aload_n dX12_piece_63 rfl)) (ok_t_l (ok_bipush dX12_piece_64 rfl)))))))) (ok_t_n (ok_t_n (ok_t_n (ok_t_n (ok_t_n (ok_t_l (ok_inv (run_V (y := 200) (n := 1) (ci := 12) dX12_piece_66 cz_200 gdG cc_200 ci_200 w_1438 cm_200 cs_200 cd_200 cl_200 rfl rfl))) (ok_t_l (ok_iadd dX12_piece_69))) (ok_t_n (ok_t_l (ok_istore dX12_piece_70)) (ok_t_n (ok_t_l (ok_aload_n dX12_piece_72 rfl)) (ok_t_l (ok_bipush dX12_piece_73 rfl))))) (ok_t_n (ok_t_n (ok_t_l (ok_inv (run_V (y := 200) (n := 1) (ci := 12) dX12_piece_75 cz_200 gdG cc_200 ci_200 w_1438 cm_200 cs_200 cd_200 cl_200 rfl rfl))) (ok_t_l (ok_bipush dX12_piece_78 rfl))) (ok_t_n (ok_t_l (ok_isub dX12_piece_80)) (ok_t_n (ok_t_l (ok_istore dX12_piece_81)) (ok_t_l (ok_iload dX12_piece_83)))))) (ok_t_n (ok_t_n (ok_t_n (ok_t_l (ok_if_ne dX12_piece_85 rfl)) (ok_t_l (ok_aload_n dX12_piece_88 rfl))) (ok_t_n (ok_t_l (ok_getfield dX12_piece_89 (ci := 12) (kf := 5) rfl inGX12 (by decide) w_1347)) (ok_t_n (ok_t_l (ok_iload_n dX12_piece_92 rfl)) (ok_t_l (ok_aload_n dX12_piece_93 rfl))))) (ok_t_n (ok_t_n (ok_t_l (ok_getfield dX12_piece_94 (ci := 12) (kf := 5) rfl inGX12 (by decide) w_1347)) (ok_t_l (ok_iload_n dX12_piece_97 rfl))) (ok_t_n (ok_t_l (ok_aaload dX12_piece_98)) (ok_t_n (ok_t_l (ok_iconst dX12_piece_99 rfl)) (ok_t_l (ok_newint dX12_piece_100 w_614))))))) (ok_t_n (ok_t_n (ok_t_n (ok_t_n (ok_t_l (ok_dup dX12_piece_102)) (ok_t_l (ok_iconst dX12_piece_103 rfl))) (ok_t_n (ok_t_l (ok_iconst dX12_piece_104 rfl)) (ok_t_n (ok_t_l (ok_iastore dX12_piece_105)) (ok_t_l (ok_dup dX12_piece_106))))) (ok_t_n (ok_t_n (ok_t_l (ok_iconst dX12_piece_107 rfl)) (ok_t_l (ok_iload dX12_piece_108))) (ok_t_n (ok_t_l (ok_iastore dX12_piece_110)) (ok_t_n (ok_t_l (ok_dup dX12_piece_111)) (ok_t_l (ok_iconst dX12_piece_112 rfl)))))) (ok_t_n (ok_t_n (ok_t_n (ok_t_l (ok_iconst dX12_piece_113 rfl)) (ok_t_l (ok_iastore dX12_piece_114))) (ok_t_n (ok_t_l (ok_dup dX12_piece_115)) (ok_t_n (ok_t_l (ok_iconst dX12_piece_116 rfl)) (ok_t_l (ok_iconst dX12_piece_117 rfl))))) (ok_t_n (ok_t_n (ok_t_l (ok_iastore dX12_piece_118)) (ok_t_l (ok_inv (run_S (y := 201) (n := 2) dX12_piece_119 cz_201 gdG cc_201 ci_201 w_1439 cm_201 cd_201 cl_201)))) (ok_t_n (ok_t_l (ok_aastore dX12_piece_122)) (ok_t_n (ok_t_l (ok_goto dX12_piece_123 rfl)) (ok_t_l (ok_aload_n dX12_piece_126 rfl))))))))) (ok_t_n (ok_t_n (ok_t_n (ok_t_n (ok_t_n (ok_t_n (ok_t_l (ok_getfield dX12_piece_127 (ci := 12) (kf := 5) rfl inGX12 (by decide) w_1347)) (ok_t_l (ok_iload_n dX12_piece_130 rfl))) (ok_t_n (ok_t_l (ok_aload_n dX12_piece_131 rfl)) (ok_t_n (ok_t_l (ok_getfield dX12_piece_132 (ci := 12) (kf := 5) rfl inGX12 (by decide) w_1347)) (ok_t_l (ok_iload_n dX12_piece_135 rfl))))) (ok_t_n (ok_t_n (ok_t_l (ok_aaload dX12_piece_136)) (ok_t_l (ok_iconst dX12_piece_137 rfl))) (ok_t_n (ok_t_l (ok_newint dX12_piece_138 w_614)) (ok_t_n (ok_t_l (ok_dup dX12_piece_140)) (ok_t_l (ok_iconst dX12_piece_141 rfl)))))) (ok_t_n (ok_t_n (ok_t_n (ok_t_l (ok_iload dX12_piece_142)) (ok_t_l (ok_iastore dX12_piece_144))) (ok_t_n (ok_t_l (ok_dup dX12_piece_145)) (ok_t_n (ok_t_l (ok_iconst dX12_piece_146 rfl)) (ok_t_l (ok_iload_n dX12_piece_147 rfl))))) (ok_t_n (ok_t_n (ok_t_l (ok_iastore dX12_piece_148)) (ok_t_l (ok_dup dX12_piece_149))) (ok_t_n (ok_t_l (ok_iconst dX12_piece_150 rfl)) (ok_t_n (ok_t_l (ok_iload dX12_piece_151)) (ok_t_l (ok_iconst dX12_piece_153 rfl))))))) (ok_t_n (ok_t_n (ok_t_n (ok_t_n (ok_t_l (ok_icmp_ne dX12_piece_154 rfl)) (ok_t_l (ok_iload dX12_piece_157))) (ok_t_n (ok_t_l (ok_goto dX12_piece_159 rfl)) (ok_t_n (ok_t_l (ok_iconst dX12_piece_162 rfl)) (ok_t_l (ok_iastore dX12_piece_163))))) (ok_t_n (ok_t_n (ok_t_l (ok_dup dX12_piece_164)) (ok_t_l (ok_iconst dX12_piece_165 rfl))) (ok_t_n (ok_t_l (ok_iload_n dX12_piece_166 rfl)) (ok_t_n (ok_t_l (ok_iastore dX12_piece_167)) (ok_t_l (ok_inv (run_S (y := 201) (n := 2) dX12_piece_168 cz_201 gdG cc_201 ci_201 w_1439 cm_201 cd_201 cl_201))))))) (ok_t_n (ok_t_n (ok_t_n (ok_t_l (ok_aastore dX12_piece_171)) (ok_t_l (ok_iload dX12_piece_172))) (ok_t_n (ok_t_l (ok_if_ne dX12_piece_174 rfl)) (ok_t_n (ok_t_l (ok_aload_n dX12_piece_177 rfl)) (ok_t_l (ok_getfield dX12_piece_178 (ci := 12) (kf := 0) rfl inGX12 (by decide) w_1340))))) (ok_t_n (ok_t_n (ok_t_l (ok_iload_n dX12_piece_181 rfl)) (ok_t_l (ok_iload dX12_piece_182))) (ok_t_n (ok_t_l (ok_inv (run_V (y := 161) (n := 2) (ci := 11) dX12_piece_184 cz_161 gdG cc_161 ci_161 w_1440 cm_161 cs_161 cd_161 cl_161 rfl rfl))) (ok_t_n (ok_t_l (ok_goto dX12_piece_187 rfl)) (ok_t_l (ok_iload dX12_piece_190)))))))) (ok_t_n (ok_t_n (ok_t_n (ok_t_n (ok_t_n (ok_t_l (ok_iconst dX12_piece_192 rfl)) (ok_t_l (ok_icmp_ne dX12_piece_193 rfl))) (ok_t_n (ok_t_l (ok_aload_n dX12_piece_196 rfl)) (ok_t_n (ok_t_l (ok_getfield dX12_piece_197 (ci := 12) (kf := 0) rfl inGX12 (by decide) w_1340)) (ok_t_l (ok_iload_n dX12_piece_200 rfl))))) (ok_t_n (ok_t_n (ok_t_l (ok_iload_n dX12_piece_201 rfl)) (ok_t_l (ok_iload dX12_piece_202))) (ok_t_n (ok_t_l (ok_iload_n dX12_piece_204 rfl)) (ok_t_n (ok_t_l (ok_iconst dX12_piece_205 rfl)) (ok_t_l (ok_icmp_ne dX12_piece_206 rfl)))))) (ok_t_n (ok_t_n (ok_t_n (ok_t_l (ok_iconst dX12_piece_209 rfl)) (ok_t_l (ok_goto dX12_piece_210 rfl))) (ok_t_n (ok_t_l (ok_iconst dX12_piece_213 rfl)) (ok_t_n (ok_t_l (ok_inv (run_V (y := 162) (n := 4) (ci := 11) dX12_piece_214 cz_162 gdG cc_162 ci_162 w_1456 cm_162 cs_162 cd_162 cl_162 rfl rfl))) (ok_t_l (ok_goto dX12_piece_217 rfl))))) (ok_t_n (ok_t_n (ok_t_l (ok_aload_n dX12_piece_220 rfl)) (ok_t_l (ok_getfield dX12_piece_221 (ci := 12) (kf := 0) rfl inGX12 (by decide) w_1340))) (ok_t_n (ok_t_l (ok_iload_n dX12_piece_224 rfl)) (ok_t_n (ok_t_l (ok_iload_n dX12_piece_225 rfl)) (ok_t_l (ok_iload_n dX12_piece_226 rfl))))))) (ok_t_n (ok_t_n (ok_t_n (ok_t_n (ok_t_l (ok_iconst dX12_piece_227 rfl)) (ok_t_l (ok_icmp_ne dX12_piece_228 rfl))) (ok_t_n (ok_t_l (ok_iconst dX12_piece_231 rfl)) (ok_t_n (ok_t_l (ok_goto dX12_piece_232 rfl)) (ok_t_l (ok_iconst dX12_piece_235 rfl))))) (ok_t_n (ok_t_n (ok_t_l (ok_inv (run_V (y := 163) (n := 3) (ci := 11) dX12_piece_236 cz_163 gdG cc_163 ci_163 w_1469 cm_163 cs_163 cd_163 cl_163 rfl rfl))) (ok_t_l (ok_istore dX12_piece_239))) (ok_t_n (ok_t_l (ok_iload dX12_piece_241)) (ok_t_n (ok_t_l (ok_aload_n dX12_piece_243 rfl)) (ok_t_l (ok_getfield dX12_piece_244 (ci := 12) (kf := 5) rfl inGX12 (by decide) w_1347)))))) (ok_t_n (ok_t_n (ok_t_n (ok_t_l (ok_iload_n dX12_piece_247 rfl)) (ok_t_l (ok_aaload dX12_piece_248))) (ok_t_n (ok_t_l (ok_arraylength dX12_piece_249)) (ok_t_n (ok_t_l (ok_iconst dX12_piece_250 rfl)) (ok_t_l (ok_isub dX12_piece_251))))) (ok_t_n (ok_t_n (ok_t_l (ok_icmp_ne dX12_piece_252 rfl)) (ok_t_l (ok_iconst dX12_piece_255 rfl))) (ok_t_n (ok_t_l (ok_goto dX12_piece_256 rfl)) (ok_t_n (ok_t_l (ok_iconst dX12_piece_259 rfl)) (ok_t_l (ok_ireturn dX12_piece_260))))))))))
