theorem dX0_init_0 : decode cX0_init 0 = .ok (.aload_n 0, 1) := by decide +kernel
theorem dX0_init_1 : decode cX0_init 1 = .ok (.invokespecial 3, 3) := by decide +kernel
theorem dX0_init_4 : decode cX0_init 4 = .ok (.aload_n 0, 1) := by decide +kernel
theorem dX0_init_5 : decode cX0_init 5 = .ok (.sipush 1620, 3) := by decide +kernel
theorem dX0_init_8 : decode cX0_init 8 = .ok (.newarray .int, 2) := by decide +kernel
theorem dX0_init_10 : decode cX0_init 10 = .ok (.putfield 9, 3) := by decide +kernel
theorem dX0_init_13 : decode cX0_init 13 = .ok (.aload_n 0, 1) := by decide +kernel
theorem dX0_init_14 : decode cX0_init 14 = .ok (.iconst 0, 1) := by decide +kernel
theorem dX0_init_15 : decode cX0_init 15 = .ok (.putfield 15, 3) := by decide +kernel
theorem dX0_init_18 : decode cX0_init 18 = .ok (.return_, 1) := by decide +kernel
def g_X0_init : Nat → EA := (t_n 10 (t_n 4 (t_n 1 (t_l 0 (a_aload 1 0)) (t_l 1 a_objI)) (t_n 5 (t_l 4 (a_aload 1 0)) (t_n 8 (t_l 5 (a_push 3 (.int 1620))) (t_l 8 (a_newa 0))))) (t_n 14 (t_n 13 (t_l 10 (a_putf 9 0 0)) (t_l 13 (a_aload 1 0))) (t_n 15 (t_l 14 (a_push 1 (.int 0))) (t_n 18 (t_l 15 (a_putf 0 0 1)) (t_l 18 a_vret)))))
set_option maxRecDepth 100000 in
theorem k_X0_init (sc : Nat × (Nat → Int32)) (d : Nat) : ∀ pc, ev_Ok cX0_init 1 [] RX0 lw_g lw_n (lw_q sc) vwCl true (ev_CO mt lw_g lw_n (lw_q sc) vwCl d) pc (g_X0_init pc) := (ok_t_n (ok_t_n (ok_t_n (ok_t_l (ok_aload_n dX0_init_0 rfl)) (ok_t_l (ok_objinit dX0_init_1 w_1121 w_94 w_obj ev_CO.small))) (ok_t_n (ok_t_l (ok_aload_n dX0_init_4 rfl)) (ok_t_n (ok_t_l (ok_sipush dX0_init_5 rfl)) (ok_t_l (ok_newint dX0_init_8 w_614))))) (ok_t_n (ok_t_n (ok_t_l (ok_putfieldF dX0_init_10 (ci := 0) (kf := 0) rfl inGX0 (by decide) tyX0_ok nmX0 rfl w_1122 rfl rfl rfl)) (ok_t_l (ok_aload_n dX0_init_13 rfl))) (ok_t_n (ok_t_l (ok_iconst dX0_init_14 rfl)) (ok_t_n (ok_t_l (ok_putfield dX0_init_15 (ci := 0) (kf := 1) rfl inGX0 (by decide) tyX0_ok nmX0 rfl w_1123 rfl)) (ok_t_l (ok_vreturn dX0_init_18))))))
theorem dX0_count_0 : decode cX0_count 0 = .ok (.aload_n 0, 1) := by decide +kernel
theorem dX0_count_1 : decode cX0_count 1 = .ok (.getfield 15, 3) := by decide +kernel
theorem dX0_count_4 : decode cX0_count 4 = .ok (.ireturn, 1) := by decide +kernel
def g_X0_count : Nat → EA := (t_n 1 (t_l 0 (a_aload 1 0)) (t_n 4 (t_l 1 (a_getf 0 1)) (t_l 4 a_iret)))
set_option maxRecDepth 100000 in
theorem k_X0_count (sc : Nat × (Nat → Int32)) (d : Nat) : ∀ pc, ev_Ok cX0_count 1 [] RX0 lw_g lw_n (lw_q sc) vwCl false (ev_CO mt lw_g lw_n (lw_q sc) vwCl d) pc (g_X0_count pc) := (ok_t_n (ok_t_l (ok_aload_n dX0_count_0 rfl)) (ok_t_n (ok_t_l (ok_getfield dX0_count_1 (ci := 0) (kf := 1) rfl inGX0 (by decide) w_1123)) (ok_t_l (ok_ireturn dX0_count_4))))
theorem dX0_forget_0 : decode cX0_forget 0 = .ok (.aload_n 0, 1) := by decide +kernel
theorem dX0_forget_1 : decode cX0_forget 1 = .ok (.iconst 0, 1) := by decide +kernel
theorem dX0_forget_2 : decode cX0_forget 2 = .ok (.putfield 15, 3) := by decide +kernel
theorem dX0_forget_5 : decode cX0_forget 5 = .ok (.return_, 1) := by decide +kernel
def g_X0_forget : Nat → EA := (t_n 2 (t_n 1 (t_l 0 (a_aload 1 0)) (t_l 1 (a_push 1 (.int 0)))) (t_n 5 (t_l 2 (a_putf 0 0 1)) (t_l 5 a_vret)))
set_option maxRecDepth 100000 in
theorem k_X0_forget (sc : Nat × (Nat → Int32)) (d : Nat) : ∀ pc, ev_Ok cX0_forget 1 [] RX0 lw_g lw_n (lw_q sc) vwCl false (ev_CO mt lw_g lw_n (lw_q sc) vwCl d) pc (g_X0_forget pc) := (ok_t_n (ok_t_n (ok_t_l (ok_aload_n dX0_forget_0 rfl)) (ok_t_l (ok_iconst dX0_forget_1 rfl))) (ok_t_n (ok_t_l (ok_putfield dX0_forget_2 (ci := 0) (kf := 1) rfl inGX0 (by decide) tyX0_ok nmX0 rfl w_1123 rfl)) (ok_t_l (ok_vreturn dX0_forget_5))))
theorem dX0_add_0 : decode cX0_add 0 = .ok (.aload_n 0, 1) := by decide +kernel
theorem dX0_add_1 : decode cX0_add 1 = .ok (.getfield 15, 3) := by decide +kernel
theorem dX0_add_4 : decode cX0_add 4 = .ok (.sipush 405, 3) := by decide +kernel
theorem dX0_add_7 : decode cX0_add 7 = .ok (.if_icmp .lt 4, 3) := by decide +kernel
theorem dX0_add_10 : decode cX0_add 10 = .ok (.return_, 1) := by decide +kernel
theorem dX0_add_11 : decode cX0_add 11 = .ok (.aload_n 0, 1) := by decide +kernel
theorem dX0_add_12 : decode cX0_add 12 = .ok (.getfield 15, 3) := by decide +kernel
theorem dX0_add_15 : decode cX0_add 15 = .ok (.iconst 4, 1) := by decide +kernel
theorem dX0_add_16 : decode cX0_add 16 = .ok (.imul, 1) := by decide +kernel
theorem dX0_add_17 : decode cX0_add 17 = .ok (.istore 5, 2) := by decide +kernel
theorem dX0_add_19 : decode cX0_add 19 = .ok (.aload_n 0, 1) := by decide +kernel
theorem dX0_add_20 : decode cX0_add 20 = .ok (.getfield 9, 3) := by decide +kernel
theorem dX0_add_23 : decode cX0_add 23 = .ok (.iload 5, 2) := by decide +kernel
theorem dX0_add_25 : decode cX0_add 25 = .ok (.iload_n 1, 1) := by decide +kernel
theorem dX0_add_26 : decode cX0_add 26 = .ok (.iastore, 1) := by decide +kernel
theorem dX0_add_27 : decode cX0_add 27 = .ok (.aload_n 0, 1) := by decide +kernel
theorem dX0_add_28 : decode cX0_add 28 = .ok (.getfield 9, 3) := by decide +kernel
theorem dX0_add_31 : decode cX0_add 31 = .ok (.iload 5, 2) := by decide +kernel
theorem dX0_add_33 : decode cX0_add 33 = .ok (.iconst 1, 1) := by decide +kernel
theorem dX0_add_34 : decode cX0_add 34 = .ok (.iadd, 1) := by decide +kernel
theorem dX0_add_35 : decode cX0_add 35 = .ok (.iload_n 2, 1) := by decide +kernel
theorem dX0_add_36 : decode cX0_add 36 = .ok (.iastore, 1) := by decide +kernel
theorem dX0_add_37 : decode cX0_add 37 = .ok (.aload_n 0, 1) := by decide +kernel
theorem dX0_add_38 : decode cX0_add 38 = .ok (.getfield 9, 3) := by decide +kernel
theorem dX0_add_41 : decode cX0_add 41 = .ok (.iload 5, 2) := by decide +kernel
theorem dX0_add_43 : decode cX0_add 43 = .ok (.iconst 2, 1) := by decide +kernel
theorem dX0_add_44 : decode cX0_add 44 = .ok (.iadd, 1) := by decide +kernel
theorem dX0_add_45 : decode cX0_add 45 = .ok (.iload_n 3, 1) := by decide +kernel
theorem dX0_add_46 : decode cX0_add 46 = .ok (.iastore, 1) := by decide +kernel
theorem dX0_add_47 : decode cX0_add 47 = .ok (.aload_n 0, 1) := by decide +kernel
theorem dX0_add_48 : decode cX0_add 48 = .ok (.getfield 9, 3) := by decide +kernel
theorem dX0_add_51 : decode cX0_add 51 = .ok (.iload 5, 2) := by decide +kernel
theorem dX0_add_53 : decode cX0_add 53 = .ok (.iconst 3, 1) := by decide +kernel
theorem dX0_add_54 : decode cX0_add 54 = .ok (.iadd, 1) := by decide +kernel
theorem dX0_add_55 : decode cX0_add 55 = .ok (.iload 4, 2) := by decide +kernel
theorem dX0_add_57 : decode cX0_add 57 = .ok (.iastore, 1) := by decide +kernel
theorem dX0_add_58 : decode cX0_add 58 = .ok (.aload_n 0, 1) := by decide +kernel
theorem dX0_add_59 : decode cX0_add 59 = .ok (.dup, 1) := by decide +kernel
theorem dX0_add_60 : decode cX0_add 60 = .ok (.getfield 15, 3) := by decide +kernel
theorem dX0_add_63 : decode cX0_add 63 = .ok (.iconst 1, 1) := by decide +kernel
theorem dX0_add_64 : decode cX0_add 64 = .ok (.iadd, 1) := by decide +kernel
theorem dX0_add_65 : decode cX0_add 65 = .ok (.putfield 15, 3) := by decide +kernel
theorem dX0_add_68 : decode cX0_add 68 = .ok (.return_, 1) := by decide +kernel
def g_X0_add : Nat → EA := (t_n 36 (t_n 19 (t_n 11 (t_n 4 (t_n 1 (t_l 0 (a_aload 1 0)) (t_l 1 (a_getf 0 1))) (t_n 7 (t_l 4 (a_push 3 (.int 405))) (t_n 10 (t_l 7 (a_ic 11 (fun x y => decide (x < y)))) (t_l 10 a_vret)))) (t_n 15 (t_n 12 (t_l 11 (a_aload 1 0)) (t_l 12 (a_getf 0 1))) (t_n 16 (t_l 15 (a_push 1 (.int 4))) (t_n 17 (t_l 16 (a_ii 1 (fun x y => x * y))) (t_l 17 (a_istore 6 2 5)))))) (t_n 27 (t_n 23 (t_n 20 (t_l 19 (a_aload 1 0)) (t_l 20 (a_getf 0 0))) (t_n 25 (t_l 23 (a_iload 2 5)) (t_n 26 (t_l 25 (a_iload 1 1)) (t_l 26 (a_ist 0))))) (t_n 33 (t_n 28 (t_l 27 (a_aload 1 0)) (t_n 31 (t_l 28 (a_getf 0 0)) (t_l 31 (a_iload 2 5)))) (t_n 34 (t_l 33 (a_push 1 (.int 1))) (t_n 35 (t_l 34 (a_ii 1 (fun x y => x + y))) (t_l 35 (a_iload 1 2))))))) (t_n 53 (t_n 44 (t_n 38 (t_n 37 (t_l 36 (a_ist 0)) (t_l 37 (a_aload 1 0))) (t_n 41 (t_l 38 (a_getf 0 0)) (t_n 43 (t_l 41 (a_iload 2 5)) (t_l 43 (a_push 1 (.int 2)))))) (t_n 47 (t_n 45 (t_l 44 (a_ii 1 (fun x y => x + y))) (t_n 46 (t_l 45 (a_iload 1 3)) (t_l 46 (a_ist 0)))) (t_n 48 (t_l 47 (a_aload 1 0)) (t_n 51 (t_l 48 (a_getf 0 0)) (t_l 51 (a_iload 2 5)))))) (t_n 59 (t_n 55 (t_n 54 (t_l 53 (a_push 1 (.int 3))) (t_l 54 (a_ii 1 (fun x y => x + y)))) (t_n 57 (t_l 55 (a_iload 2 4)) (t_n 58 (t_l 57 (a_ist 0)) (t_l 58 (a_aload 1 0))))) (t_n 64 (t_n 60 (t_l 59 a_dup) (t_n 63 (t_l 60 (a_getf 0 1)) (t_l 63 (a_push 1 (.int 1))))) (t_n 65 (t_l 64 (a_ii 1 (fun x y => x + y))) (t_n 68 (t_l 65 (a_putf 0 0 1)) (t_l 68 a_vret)))))))
set_option maxRecDepth 100000 in
theorem k_X0_add (sc : Nat × (Nat → Int32)) (d : Nat) : ∀ pc, ev_Ok cX0_add 6 [] RX0 lw_g lw_n (lw_q sc) vwCl false (ev_CO mt lw_g lw_n (lw_q sc) vwCl d) pc (g_X0_add pc) := (ok_t_n (ok_t_n (ok_t_n (ok_t_n (ok_t_n (ok_t_l (ok_aload_n dX0_add_0 rfl)) (ok_t_l (ok_getfield dX0_add_1 (ci := 0) (kf := 1) rfl inGX0 (by decide) w_1123))) (ok_t_n (ok_t_l (ok_sipush dX0_add_4 rfl)) (ok_t_n (ok_t_l (ok_icmp_lt dX0_add_7 rfl)) (ok_t_l (ok_vreturn dX0_add_10))))) (ok_t_n (ok_t_n (ok_t_l (ok_aload_n dX0_add_11 rfl)) (ok_t_l (ok_getfield dX0_add_12 (ci := 0) (kf := 1) rfl inGX0 (by decide) w_1123))) (ok_t_n (ok_t_l (ok_iconst dX0_add_15 rfl)) (ok_t_n (ok_t_l (ok_imul dX0_add_16)) (ok_t_l (ok_istore dX0_add_17)))))) (ok_t_n (ok_t_n (ok_t_n (ok_t_l (ok_aload_n dX0_add_19 rfl)) (ok_t_l (ok_getfield dX0_add_20 (ci := 0) (kf := 0) rfl inGX0 (by decide) w_1122))) (ok_t_n (ok_t_l (ok_iload dX0_add_23)) (ok_t_n (ok_t_l (ok_iload_n dX0_add_25 rfl)) (ok_t_l (ok_iastore dX0_add_26))))) (ok_t_n (ok_t_n (ok_t_l (ok_aload_n dX0_add_27 rfl)) (ok_t_n (ok_t_l (ok_getfield dX0_add_28 (ci := 0) (kf := 0) rfl inGX0 (by decide) w_1122)) (ok_t_l (ok_iload dX0_add_31)))) (ok_t_n (ok_t_l (ok_iconst dX0_add_33 rfl)) (ok_t_n (ok_t_l (ok_iadd dX0_add_34)) (ok_t_l (ok_iload_n dX0_add_35 rfl))))))) (ok_t_n (ok_t_n (ok_t_n (ok_t_n (ok_t_l (ok_iastore dX0_add_36)) (ok_t_l (ok_aload_n dX0_add_37 rfl))) (ok_t_n (ok_t_l (ok_getfield dX0_add_38 (ci := 0) (kf := 0) rfl inGX0 (by decide) w_1122)) (ok_t_n (ok_t_l (ok_iload dX0_add_41)) (ok_t_l (ok_iconst dX0_add_43 rfl))))) (ok_t_n (ok_t_n (ok_t_l (ok_iadd dX0_add_44)) (ok_t_n (ok_t_l (ok_iload_n dX0_add_45 rfl)) (ok_t_l (ok_iastore dX0_add_46)))) (ok_t_n (ok_t_l (ok_aload_n dX0_add_47 rfl)) (ok_t_n (ok_t_l (ok_getfield dX0_add_48 (ci := 0) (kf := 0) rfl inGX0 (by decide) w_1122)) (ok_t_l (ok_iload dX0_add_51)))))) (ok_t_n (ok_t_n (ok_t_n (ok_t_l (ok_iconst dX0_add_53 rfl)) (ok_t_l (ok_iadd dX0_add_54))) (ok_t_n (ok_t_l (ok_iload dX0_add_55)) (ok_t_n (ok_t_l (ok_iastore dX0_add_57)) (ok_t_l (ok_aload_n dX0_add_58 rfl))))) (ok_t_n (ok_t_n (ok_t_l (ok_dup dX0_add_59)) (ok_t_n (ok_t_l (ok_getfield dX0_add_60 (ci := 0) (kf := 1) rfl inGX0 (by decide) w_1123)) (ok_t_l (ok_iconst dX0_add_63 rfl)))) (ok_t_n (ok_t_l (ok_iadd dX0_add_64)) (ok_t_n (ok_t_l (ok_putfield dX0_add_65 (ci := 0) (kf := 1) rfl inGX0 (by decide) tyX0_ok nmX0 rfl w_1123 rfl)) (ok_t_l (ok_vreturn dX0_add_68))))))))
theorem dX0_part_0 : decode cX0_part 0 = .ok (.iload_n 1, 1) := by decide +kernel
theorem dX0_part_1 : decode cX0_part 1 = .ok (.sipush 405, 3) := by decide +kernel
theorem dX0_part_4 : decode cX0_part 4 = .ok (.invokestatic 19, 3) := by decide +kernel
theorem dX0_part_7 : decode cX0_part 7 = .ok (.ifCond .eq 24, 3) := by decide +kernel
theorem dX0_part_10 : decode cX0_part 10 = .ok (.iload_n 2, 1) := by decide +kernel
theorem dX0_part_11 : decode cX0_part 11 = .ok (.iconst 4, 1) := by decide +kernel
theorem dX0_part_12 : decode cX0_part 12 = .ok (.invokestatic 19, 3) := by decide +kernel
theorem dX0_part_15 : decode cX0_part 15 = .ok (.ifCond .eq 16, 3) := by decide +kernel
theorem dX0_part_18 : decode cX0_part 18 = .ok (.aload_n 0, 1) := by decide +kernel
theorem dX0_part_19 : decode cX0_part 19 = .ok (.getfield 9, 3) := by decide +kernel
theorem dX0_part_22 : decode cX0_part 22 = .ok (.iload_n 1, 1) := by decide +kernel
theorem dX0_part_23 : decode cX0_part 23 = .ok (.iconst 4, 1) := by decide +kernel
theorem dX0_part_24 : decode cX0_part 24 = .ok (.imul, 1) := by decide +kernel
theorem dX0_part_25 : decode cX0_part 25 = .ok (.iload_n 2, 1) := by decide +kernel
theorem dX0_part_26 : decode cX0_part 26 = .ok (.iadd, 1) := by decide +kernel
theorem dX0_part_27 : decode cX0_part 27 = .ok (.iaload, 1) := by decide +kernel
theorem dX0_part_28 : decode cX0_part 28 = .ok (.goto 4, 3) := by decide +kernel
theorem dX0_part_31 : decode cX0_part 31 = .ok (.iconst (-1), 1) := by decide +kernel
theorem dX0_part_32 : decode cX0_part 32 = .ok (.ireturn, 1) := by decide +kernel
def g_X0_part : Nat → EA := (t_n 19 (t_n 10 (t_n 4 (t_n 1 (t_l 0 (a_iload 1 1)) (t_l 1 (a_push 3 (.int 405)))) (t_n 7 (t_l 4 (a_inv false 192 2 none)) (t_l 7 (a_if 31 (fun x => decide (x = 0)))))) (t_n 12 (t_n 11 (t_l 10 (a_iload 1 2)) (t_l 11 (a_push 1 (.int 4)))) (t_n 15 (t_l 12 (a_inv false 192 2 none)) (t_n 18 (t_l 15 (a_if 31 (fun x => decide (x = 0)))) (t_l 18 (a_aload 1 0)))))) (t_n 26 (t_n 23 (t_n 22 (t_l 19 (a_getf 0 0)) (t_l 22 (a_iload 1 1))) (t_n 24 (t_l 23 (a_push 1 (.int 4))) (t_n 25 (t_l 24 (a_ii 1 (fun x y => x * y))) (t_l 25 (a_iload 1 2))))) (t_n 28 (t_n 27 (t_l 26 (a_ii 1 (fun x y => x + y))) (t_l 27 (a_ild 0))) (t_n 31 (t_l 28 (a_goto 32)) (t_n 32 (t_l 31 (a_push 1 (.int (-1)))) (t_l 32 a_iret))))))
set_option maxRecDepth 100000 in
theorem k_X0_part (sc : Nat × (Nat → Int32)) (d : Nat) : ∀ pc, ev_Ok cX0_part 3 [] RX0 lw_g lw_n (lw_q sc) vwCl false (ev_CO mt lw_g lw_n (lw_q sc) vwCl d) pc (g_X0_part pc) := (ok_t_n (ok_t_n (ok_t_n (ok_t_n (ok_t_l (ok_iload_n dX0_part_0 rfl)) (ok_t_l (ok_sipush dX0_part_1 rfl))) (ok_t_n (ok_t_l (ok_inv (run_SN (y := 192) (n := 2) dX0_part_4 cz_192 gdG cc_192 ci_192 nst_15 cm_192 cd_192 cl_192))) (ok_t_l (ok_if_eq dX0_part_7 rfl)))) (ok_t_n (ok_t_n (ok_t_l (ok_iload_n dX0_part_10 rfl)) (ok_t_l (ok_iconst dX0_part_11 rfl))) (ok_t_n (ok_t_l (ok_inv (run_SN (y := 192) (n := 2) dX0_part_12 cz_192 gdG cc_192 ci_192 nst_15 cm_192 cd_192 cl_192))) (ok_t_n (ok_t_l (ok_if_eq dX0_part_15 rfl)) (ok_t_l (ok_aload_n dX0_part_18 rfl)))))) (ok_t_n (ok_t_n (ok_t_n (ok_t_l (ok_getfield dX0_part_19 (ci := 0) (kf := 0) rfl inGX0 (by decide) w_1122)) (ok_t_l (ok_iload_n dX0_part_22 rfl))) (ok_t_n (ok_t_l (ok_iconst dX0_part_23 rfl)) (ok_t_n (ok_t_l (ok_imul dX0_part_24)) (ok_t_l (ok_iload_n dX0_part_25 rfl))))) (ok_t_n (ok_t_n (ok_t_l (ok_iadd dX0_part_26)) (ok_t_l (ok_iaload dX0_part_27))) (ok_t_n (ok_t_l (ok_goto dX0_part_28 rfl)) (ok_t_n (ok_t_l (ok_iconst dX0_part_31 rfl)) (ok_t_l (ok_ireturn dX0_part_32)))))))
theorem dX1_init_0 : decode cX1_init 0 = .ok (.aload_n 0, 1) := by decide +kernel
theorem dX1_init_1 : decode cX1_init 1 = .ok (.invokespecial 3, 3) := by decide +kernel
theorem dX1_init_4 : decode cX1_init 4 = .ok (.aload_n 0, 1) := by decide +kernel
theorem dX1_init_5 : decode cX1_init 5 = .ok (.bipush 64, 2) := by decide +kernel
theorem dX1_init_7 : decode cX1_init 7 = .ok (.newarray .int, 2) := by decide +kernel
theorem dX1_init_9 : decode cX1_init 9 = .ok (.putfield 9, 3) := by decide +kernel
theorem dX1_init_12 : decode cX1_init 12 = .ok (.return_, 1) := by decide +kernel
def g_X1_init : Nat → EA := (t_n 5 (t_n 1 (t_l 0 (a_aload 1 0)) (t_n 4 (t_l 1 a_objI) (t_l 4 (a_aload 1 0)))) (t_n 9 (t_n 7 (t_l 5 (a_push 2 (.int 64))) (t_l 7 (a_newa 0))) (t_n 12 (t_l 9 (a_putf 9 1 0)) (t_l 12 a_vret))))
set_option maxRecDepth 100000 in
theorem k_X1_init (sc : Nat × (Nat → Int32)) (d : Nat) : ∀ pc, ev_Ok cX1_init 1 [] RX1 lw_g lw_n (lw_q sc) vwCl true (ev_CO mt lw_g lw_n (lw_q sc) vwCl d) pc (g_X1_init pc) := (ok_t_n (ok_t_n (ok_t_l (ok_aload_n dX1_init_0 rfl)) (ok_t_n (ok_t_l (ok_objinit dX1_init_1 w_1106 w_94 w_obj ev_CO.small)) (ok_t_l (ok_aload_n dX1_init_4 rfl)))) (ok_t_n (ok_t_n (ok_t_l (ok_bipush dX1_init_5 rfl)) (ok_t_l (ok_newint dX1_init_7 w_614))) (ok_t_n (ok_t_l (ok_putfield dX1_init_9 (ci := 1) (kf := 0) rfl inGX1 (by decide) tyX1_ok nmX1 rfl w_1107 rfl)) (ok_t_l (ok_vreturn dX1_init_12)))))
theorem dX1_clearUpTo_0 : decode cX1_clearUpTo 0 = .ok (.iload_n 1, 1) := by decide +kernel
theorem dX1_clearUpTo_1 : decode cX1_clearUpTo 1 = .ok (.aload_n 0, 1) := by decide +kernel
theorem dX1_clearUpTo_2 : decode cX1_clearUpTo 2 = .ok (.getfield 9, 3) := by decide +kernel
theorem dX1_clearUpTo_5 : decode cX1_clearUpTo 5 = .ok (.arraylength, 1) := by decide +kernel
theorem dX1_clearUpTo_6 : decode cX1_clearUpTo 6 = .ok (.if_icmp .le 21, 3) := by decide +kernel
theorem dX1_clearUpTo_9 : decode cX1_clearUpTo 9 = .ok (.aload_n 0, 1) := by decide +kernel
theorem dX1_clearUpTo_10 : decode cX1_clearUpTo 10 = .ok (.iload_n 1, 1) := by decide +kernel
theorem dX1_clearUpTo_11 : decode cX1_clearUpTo 11 = .ok (.iconst 2, 1) := by decide +kernel
theorem dX1_clearUpTo_12 : decode cX1_clearUpTo 12 = .ok (.aload_n 0, 1) := by decide +kernel
theorem dX1_clearUpTo_13 : decode cX1_clearUpTo 13 = .ok (.getfield 9, 3) := by decide +kernel
theorem dX1_clearUpTo_16 : decode cX1_clearUpTo 16 = .ok (.arraylength, 1) := by decide +kernel
theorem dX1_clearUpTo_17 : decode cX1_clearUpTo 17 = .ok (.imul, 1) := by decide +kernel
theorem dX1_clearUpTo_18 : decode cX1_clearUpTo 18 = .ok (.invokestatic 15, 3) := by decide +kernel
theorem dX1_clearUpTo_21 : decode cX1_clearUpTo 21 = .ok (.newarray .int, 2) := by decide +kernel
theorem dX1_clearUpTo_23 : decode cX1_clearUpTo 23 = .ok (.putfield 9, 3) := by decide +kernel
theorem dX1_clearUpTo_26 : decode cX1_clearUpTo 26 = .ok (.return_, 1) := by decide +kernel
theorem dX1_clearUpTo_27 : decode cX1_clearUpTo 27 = .ok (.iconst 0, 1) := by decide +kernel
theorem dX1_clearUpTo_28 : decode cX1_clearUpTo 28 = .ok (.istore_n 2, 1) := by decide +kernel
theorem dX1_clearUpTo_29 : decode cX1_clearUpTo 29 = .ok (.iload_n 2, 1) := by decide +kernel
theorem dX1_clearUpTo_30 : decode cX1_clearUpTo 30 = .ok (.iload_n 1, 1) := by decide +kernel
theorem dX1_clearUpTo_31 : decode cX1_clearUpTo 31 = .ok (.if_icmp .ge 16, 3) := by decide +kernel
theorem dX1_clearUpTo_34 : decode cX1_clearUpTo 34 = .ok (.aload_n 0, 1) := by decide +kernel
theorem dX1_clearUpTo_35 : decode cX1_clearUpTo 35 = .ok (.getfield 9, 3) := by decide +kernel
theorem dX1_clearUpTo_38 : decode cX1_clearUpTo 38 = .ok (.iload_n 2, 1) := by decide +kernel
theorem dX1_clearUpTo_39 : decode cX1_clearUpTo 39 = .ok (.iconst 0, 1) := by decide +kernel
theorem dX1_clearUpTo_40 : decode cX1_clearUpTo 40 = .ok (.iastore, 1) := by decide +kernel
theorem dX1_clearUpTo_41 : decode cX1_clearUpTo 41 = .ok (.iinc 2 1, 3) := by decide +kernel
theorem dX1_clearUpTo_44 : decode cX1_clearUpTo 44 = .ok (.goto (-15), 3) := by decide +kernel
theorem dX1_clearUpTo_47 : decode cX1_clearUpTo 47 = .ok (.return_, 1) := by decide +kernel
def g_X1_clearUpTo : Nat → EA := (t_n 23 (t_n 11 (t_n 5 (t_n 1 (t_l 0 (a_iload 1 1)) (t_n 2 (t_l 1 (a_aload 1 0)) (t_l 2 (a_getf 1 0)))) (t_n 9 (t_n 6 (t_l 5 a_alen) (t_l 6 (a_ic 27 (fun x y => decide (x ≤ y))))) (t_n 10 (t_l 9 (a_aload 1 0)) (t_l 10 (a_iload 1 1))))) (t_n 16 (t_n 12 (t_l 11 (a_push 1 (.int 2))) (t_n 13 (t_l 12 (a_aload 1 0)) (t_l 13 (a_getf 1 0)))) (t_n 18 (t_n 17 (t_l 16 a_alen) (t_l 17 (a_ii 1 (fun x y => x * y)))) (t_n 21 (t_l 18 (a_inv true 211 2 none)) (t_l 21 (a_newa 0)))))) (t_n 34 (t_n 28 (t_n 26 (t_l 23 (a_putf 9 1 0)) (t_n 27 (t_l 26 a_vret) (t_l 27 (a_push 1 (.int 0))))) (t_n 30 (t_n 29 (t_l 28 (a_istore 3 1 2)) (t_l 29 (a_iload 1 2))) (t_n 31 (t_l 30 (a_iload 1 1)) (t_l 31 (a_ic 47 (fun x y => decide (y ≤ x))))))) (t_n 40 (t_n 38 (t_n 35 (t_l 34 (a_aload 1 0)) (t_l 35 (a_getf 1 0))) (t_n 39 (t_l 38 (a_iload 1 2)) (t_l 39 (a_push 1 (.int 0))))) (t_n 44 (t_n 41 (t_l 40 (a_ist 0)) (t_l 41 (a_iinc 3 2 1))) (t_n 47 (t_l 44 (a_goto 29)) (t_l 47 a_vret))))))
set_option maxRecDepth 100000 in
theorem k_X1_clearUpTo (sc : Nat × (Nat → Int32)) (d : Nat) : ∀ pc, ev_Ok cX1_clearUpTo 3 [] RX1 lw_g lw_n (lw_q sc) vwCl false (ev_CO mt lw_g lw_n (lw_q sc) vwCl d) pc (g_X1_clearUpTo pc) := (ok_t_n (ok_t_n (ok_t_n (ok_t_n (ok_t_l (ok_iload_n dX1_clearUpTo_0 rfl)) (ok_t_n (ok_t_l (ok_aload_n dX1_clearUpTo_1 rfl)) (ok_t_l (ok_getfield dX1_clearUpTo_2 (ci := 1) (kf := 0) rfl inGX1 (by decide) w_1107)))) (ok_t_n (ok_t_n (ok_t_l (ok_arraylength dX1_clearUpTo_5)) (ok_t_l (ok_icmp_le dX1_clearUpTo_6 rfl))) (ok_t_n (ok_t_l (ok_aload_n dX1_clearUpTo_9 rfl)) (ok_t_l (ok_iload_n dX1_clearUpTo_10 rfl))))) (ok_t_n (ok_t_n (ok_t_l (ok_iconst dX1_clearUpTo_11 rfl)) (ok_t_n (ok_t_l (ok_aload_n dX1_clearUpTo_12 rfl)) (ok_t_l (ok_getfield dX1_clearUpTo_13 (ci := 1) (kf := 0) rfl inGX1 (by decide) w_1107)))) (ok_t_n (ok_t_n (ok_t_l (ok_arraylength dX1_clearUpTo_16)) (ok_t_l (ok_imul dX1_clearUpTo_17))) (ok_t_n (ok_t_l (ok_inv (run_S (y := 211) (n := 2) dX1_clearUpTo_18 cz_211 gdG cc_211 ci_211 w_596 cm_211 cd_211 cl_211))) (ok_t_l (ok_newint dX1_clearUpTo_21 w_614)))))) (ok_t_n (ok_t_n (ok_t_n (ok_t_l (ok_putfield dX1_clearUpTo_23 (ci := 1) (kf := 0) rfl inGX1 (by decide) tyX1_ok nmX1 rfl w_1107 rfl)) (ok_t_n (ok_t_l (ok_vreturn dX1_clearUpTo_26)) (ok_t_l (ok_iconst dX1_clearUpTo_27 rfl)))) (ok_t_n (ok_t_n (ok_t_l (ok_istore_n dX1_clearUpTo_28 rfl)) (ok_t_l (ok_iload_n dX1_clearUpTo_29 rfl))) (ok_t_n (ok_t_l (ok_iload_n dX1_clearUpTo_30 rfl)) (ok_t_l (ok_icmp_ge dX1_clearUpTo_31 rfl))))) (ok_t_n (ok_t_n (ok_t_n (ok_t_l (ok_aload_n dX1_clearUpTo_34 rfl)) (ok_t_l (ok_getfield dX1_clearUpTo_35 (ci := 1) (kf := 0) rfl inGX1 (by decide) w_1107))) (ok_t_n (ok_t_l (ok_iload_n dX1_clearUpTo_38 rfl)) (ok_t_l (ok_iconst dX1_clearUpTo_39 rfl)))) (ok_t_n (ok_t_n (ok_t_l (ok_iastore dX1_clearUpTo_40)) (ok_t_l (ok_iinc dX1_clearUpTo_41 rfl))) (ok_t_n (ok_t_l (ok_goto dX1_clearUpTo_44 rfl)) (ok_t_l (ok_vreturn dX1_clearUpTo_47)))))))
theorem dX1_put_0 : decode cX1_put 0 = .ok (.iload_n 1, 1) := by decide +kernel
theorem dX1_put_1 : decode cX1_put 1 = .ok (.ifCond .lt 19, 3) := by decide +kernel
theorem dX1_put_4 : decode cX1_put 4 = .ok (.iload_n 1, 1) := by decide +kernel
theorem dX1_put_5 : decode cX1_put 5 = .ok (.aload_n 0, 1) := by decide +kernel
theorem dX1_put_6 : decode cX1_put 6 = .ok (.getfield 9, 3) := by decide +kernel
theorem dX1_put_9 : decode cX1_put 9 = .ok (.arraylength, 1) := by decide +kernel
theorem dX1_put_10 : decode cX1_put 10 = .ok (.if_icmp .ge 10, 3) := by decide +kernel
theorem dX1_put_13 : decode cX1_put 13 = .ok (.aload_n 0, 1) := by decide +kernel
theorem dX1_put_14 : decode cX1_put 14 = .ok (.getfield 9, 3) := by decide +kernel
theorem dX1_put_17 : decode cX1_put 17 = .ok (.iload_n 1, 1) := by decide +kernel
theorem dX1_put_18 : decode cX1_put 18 = .ok (.iload_n 2, 1) := by decide +kernel
theorem dX1_put_19 : decode cX1_put 19 = .ok (.iastore, 1) := by decide +kernel
theorem dX1_put_20 : decode cX1_put 20 = .ok (.return_, 1) := by decide +kernel
def g_X1_put : Nat → EA := (t_n 10 (t_n 5 (t_n 1 (t_l 0 (a_iload 1 1)) (t_n 4 (t_l 1 (a_if 20 (fun x => decide (x < 0)))) (t_l 4 (a_iload 1 1)))) (t_n 6 (t_l 5 (a_aload 1 0)) (t_n 9 (t_l 6 (a_getf 1 0)) (t_l 9 a_alen)))) (t_n 17 (t_n 13 (t_l 10 (a_ic 20 (fun x y => decide (y ≤ x)))) (t_n 14 (t_l 13 (a_aload 1 0)) (t_l 14 (a_getf 1 0)))) (t_n 19 (t_n 18 (t_l 17 (a_iload 1 1)) (t_l 18 (a_iload 1 2))) (t_n 20 (t_l 19 (a_ist 0)) (t_l 20 a_vret)))))
set_option maxRecDepth 100000 in
theorem k_X1_put (sc : Nat × (Nat → Int32)) (d : Nat) : ∀ pc, ev_Ok cX1_put 3 [] RX1 lw_g lw_n (lw_q sc) vwCl false (ev_CO mt lw_g lw_n (lw_q sc) vwCl d) pc (g_X1_put pc) := (ok_t_n (ok_t_n (ok_t_n (ok_t_l (ok_iload_n dX1_put_0 rfl)) (ok_t_n (ok_t_l (ok_if_lt dX1_put_1 rfl)) (ok_t_l (ok_iload_n dX1_put_4 rfl)))) (ok_t_n (ok_t_l (ok_aload_n dX1_put_5 rfl)) (ok_t_n (ok_t_l (ok_getfield dX1_put_6 (ci := 1) (kf := 0) rfl inGX1 (by decide) w_1107)) (ok_t_l (ok_arraylength dX1_put_9))))) (ok_t_n (ok_t_n (ok_t_l (ok_icmp_ge dX1_put_10 rfl)) (ok_t_n (ok_t_l (ok_aload_n dX1_put_13 rfl)) (ok_t_l (ok_getfield dX1_put_14 (ci := 1) (kf := 0) rfl inGX1 (by decide) w_1107)))) (ok_t_n (ok_t_n (ok_t_l (ok_iload_n dX1_put_17 rfl)) (ok_t_l (ok_iload_n dX1_put_18 rfl))) (ok_t_n (ok_t_l (ok_iastore dX1_put_19)) (ok_t_l (ok_vreturn dX1_put_20))))))
theorem dX1_read_0 : decode cX1_read 0 = .ok (.iload_n 1, 1) := by decide +kernel
theorem dX1_read_1 : decode cX1_read 1 = .ok (.ifCond .lt 21, 3) := by decide +kernel
theorem dX1_read_4 : decode cX1_read 4 = .ok (.iload_n 1, 1) := by decide +kernel
theorem dX1_read_5 : decode cX1_read 5 = .ok (.aload_n 0, 1) := by decide +kernel
theorem dX1_read_6 : decode cX1_read 6 = .ok (.getfield 9, 3) := by decide +kernel
theorem dX1_read_9 : decode cX1_read 9 = .ok (.arraylength, 1) := by decide +kernel
theorem dX1_read_10 : decode cX1_read 10 = .ok (.if_icmp .ge 12, 3) := by decide +kernel
theorem dX1_read_13 : decode cX1_read 13 = .ok (.aload_n 0, 1) := by decide +kernel
theorem dX1_read_14 : decode cX1_read 14 = .ok (.getfield 9, 3) := by decide +kernel
theorem dX1_read_17 : decode cX1_read 17 = .ok (.iload_n 1, 1) := by decide +kernel
theorem dX1_read_18 : decode cX1_read 18 = .ok (.iaload, 1) := by decide +kernel
theorem dX1_read_19 : decode cX1_read 19 = .ok (.goto 4, 3) := by decide +kernel
theorem dX1_read_22 : decode cX1_read 22 = .ok (.iconst 0, 1) := by decide +kernel
theorem dX1_read_23 : decode cX1_read 23 = .ok (.ireturn, 1) := by decide +kernel
def g_X1_read : Nat → EA := (t_n 13 (t_n 5 (t_n 1 (t_l 0 (a_iload 1 1)) (t_n 4 (t_l 1 (a_if 22 (fun x => decide (x < 0)))) (t_l 4 (a_iload 1 1)))) (t_n 9 (t_n 6 (t_l 5 (a_aload 1 0)) (t_l 6 (a_getf 1 0))) (t_n 10 (t_l 9 a_alen) (t_l 10 (a_ic 22 (fun x y => decide (y ≤ x))))))) (t_n 18 (t_n 14 (t_l 13 (a_aload 1 0)) (t_n 17 (t_l 14 (a_getf 1 0)) (t_l 17 (a_iload 1 1)))) (t_n 22 (t_n 19 (t_l 18 (a_ild 0)) (t_l 19 (a_goto 23))) (t_n 23 (t_l 22 (a_push 1 (.int 0))) (t_l 23 a_iret)))))
set_option maxRecDepth 100000 in
theorem k_X1_read (sc : Nat × (Nat → Int32)) (d : Nat) : ∀ pc, ev_Ok cX1_read 2 [] RX1 lw_g lw_n (lw_q sc) vwCl false (ev_CO mt lw_g lw_n (lw_q sc) vwCl d) pc (g_X1_read pc) := (ok_t_n (ok_t_n (ok_t_n (ok_t_l (ok_iload_n dX1_read_0 rfl)) (ok_t_n (ok_t_l (ok_if_lt dX1_read_1 rfl)) (ok_t_l (ok_iload_n dX1_read_4 rfl)))) (ok_t_n (ok_t_n (ok_t_l (ok_aload_n dX1_read_5 rfl)) (ok_t_l (ok_getfield dX1_read_6 (ci := 1) (kf := 0) rfl inGX1 (by decide) w_1107))) (ok_t_n (ok_t_l (ok_arraylength dX1_read_9)) (ok_t_l (ok_icmp_ge dX1_read_10 rfl))))) (ok_t_n (ok_t_n (ok_t_l (ok_aload_n dX1_read_13 rfl)) (ok_t_n (ok_t_l (ok_getfield dX1_read_14 (ci := 1) (kf := 0) rfl inGX1 (by decide) w_1107)) (ok_t_l (ok_iload_n dX1_read_17 rfl)))) (ok_t_n (ok_t_n (ok_t_l (ok_iaload dX1_read_18)) (ok_t_l (ok_goto dX1_read_19 rfl))) (ok_t_n (ok_t_l (ok_iconst dX1_read_22 rfl)) (ok_t_l (ok_ireturn dX1_read_23))))))
theorem dX2_init_0 : decode cX2_init 0 = .ok (.aload_n 0, 1) := by decide +kernel
theorem dX2_init_1 : decode cX2_init 1 = .ok (.invokespecial 3, 3) := by decide +kernel
theorem dX2_init_4 : decode cX2_init 4 = .ok (.aload_n 0, 1) := by decide +kernel
theorem dX2_init_5 : decode cX2_init 5 = .ok (.bipush 8, 2) := by decide +kernel
theorem dX2_init_7 : decode cX2_init 7 = .ok (.newarray .int, 2) := by decide +kernel
theorem dX2_init_9 : decode cX2_init 9 = .ok (.putfield 9, 3) := by decide +kernel
theorem dX2_init_12 : decode cX2_init 12 = .ok (.aload_n 0, 1) := by decide +kernel
theorem dX2_init_13 : decode cX2_init 13 = .ok (.bipush 8, 2) := by decide +kernel
theorem dX2_init_15 : decode cX2_init 15 = .ok (.newarray .int, 2) := by decide +kernel
theorem dX2_init_17 : decode cX2_init 17 = .ok (.putfield 15, 3) := by decide +kernel
theorem dX2_init_20 : decode cX2_init 20 = .ok (.aload_n 0, 1) := by decide +kernel
theorem dX2_init_21 : decode cX2_init 21 = .ok (.iconst 0, 1) := by decide +kernel
theorem dX2_init_22 : decode cX2_init 22 = .ok (.putfield 18, 3) := by decide +kernel
theorem dX2_init_25 : decode cX2_init 25 = .ok (.return_, 1) := by decide +kernel
def g_X2_init : Nat → EA := (t_n 13 (t_n 5 (t_n 1 (t_l 0 (a_aload 1 0)) (t_n 4 (t_l 1 a_objI) (t_l 4 (a_aload 1 0)))) (t_n 9 (t_n 7 (t_l 5 (a_push 2 (.int 8))) (t_l 7 (a_newa 0))) (t_n 12 (t_l 9 (a_putf 9 2 0)) (t_l 12 (a_aload 1 0))))) (t_n 20 (t_n 15 (t_l 13 (a_push 2 (.int 8))) (t_n 17 (t_l 15 (a_newa 0)) (t_l 17 (a_putf 9 2 1)))) (t_n 22 (t_n 21 (t_l 20 (a_aload 1 0)) (t_l 21 (a_push 1 (.int 0)))) (t_n 25 (t_l 22 (a_putf 0 2 2)) (t_l 25 a_vret)))))
set_option maxRecDepth 100000 in
theorem k_X2_init (sc : Nat × (Nat → Int32)) (d : Nat) : ∀ pc, ev_Ok cX2_init 1 [] RX2 lw_g lw_n (lw_q sc) vwCl true (ev_CO mt lw_g lw_n (lw_q sc) vwCl d) pc (g_X2_init pc) := (ok_t_n (ok_t_n (ok_t_n (ok_t_l (ok_aload_n dX2_init_0 rfl)) (ok_t_n (ok_t_l (ok_objinit dX2_init_1 w_1036 w_94 w_obj ev_CO.small)) (ok_t_l (ok_aload_n dX2_init_4 rfl)))) (ok_t_n (ok_t_n (ok_t_l (ok_bipush dX2_init_5 rfl)) (ok_t_l (ok_newint dX2_init_7 w_614))) (ok_t_n (ok_t_l (ok_putfieldF dX2_init_9 (ci := 2) (kf := 0) rfl inGX2 (by decide) tyX2_ok nmX2 rfl w_1037 rfl rfl rfl)) (ok_t_l (ok_aload_n dX2_init_12 rfl))))) (ok_t_n (ok_t_n (ok_t_l (ok_bipush dX2_init_13 rfl)) (ok_t_n (ok_t_l (ok_newint dX2_init_15 w_614)) (ok_t_l (ok_putfieldF dX2_init_17 (ci := 2) (kf := 1) rfl inGX2 (by decide) tyX2_ok nmX2 rfl w_1038 rfl rfl rfl)))) (ok_t_n (ok_t_n (ok_t_l (ok_aload_n dX2_init_20 rfl)) (ok_t_l (ok_iconst dX2_init_21 rfl))) (ok_t_n (ok_t_l (ok_putfield dX2_init_22 (ci := 2) (kf := 2) rfl inGX2 (by decide) tyX2_ok nmX2 rfl w_1039 rfl)) (ok_t_l (ok_vreturn dX2_init_25))))))
theorem dX2_count_0 : decode cX2_count 0 = .ok (.aload_n 0, 1) := by decide +kernel
theorem dX2_count_1 : decode cX2_count 1 = .ok (.getfield 18, 3) := by decide +kernel
theorem dX2_count_4 : decode cX2_count 4 = .ok (.ireturn, 1) := by decide +kernel
def g_X2_count : Nat → EA := (t_n 1 (t_l 0 (a_aload 1 0)) (t_n 4 (t_l 1 (a_getf 2 2)) (t_l 4 a_iret)))
set_option maxRecDepth 100000 in
theorem k_X2_count (sc : Nat × (Nat → Int32)) (d : Nat) : ∀ pc, ev_Ok cX2_count 1 [] RX2 lw_g lw_n (lw_q sc) vwCl false (ev_CO mt lw_g lw_n (lw_q sc) vwCl d) pc (g_X2_count pc) := (ok_t_n (ok_t_l (ok_aload_n dX2_count_0 rfl)) (ok_t_n (ok_t_l (ok_getfield dX2_count_1 (ci := 2) (kf := 2) rfl inGX2 (by decide) w_1039)) (ok_t_l (ok_ireturn dX2_count_4))))
theorem dX2_isFull_0 : decode cX2_isFull 0 = .ok (.aload_n 0, 1) := by decide +kernel
theorem dX2_isFull_1 : decode cX2_isFull 1 = .ok (.getfield 18, 3) := by decide +kernel
theorem dX2_isFull_4 : decode cX2_isFull 4 = .ok (.bipush 8, 2) := by decide +kernel
theorem dX2_isFull_6 : decode cX2_isFull 6 = .ok (.if_icmp .lt 7, 3) := by decide +kernel
theorem dX2_isFull_9 : decode cX2_isFull 9 = .ok (.iconst 1, 1) := by decide +kernel
theorem dX2_isFull_10 : decode cX2_isFull 10 = .ok (.goto 4, 3) := by decide +kernel
theorem dX2_isFull_13 : decode cX2_isFull 13 = .ok (.iconst 0, 1) := by decide +kernel
theorem dX2_isFull_14 : decode cX2_isFull 14 = .ok (.ireturn, 1) := by decide +kernel
def g_X2_isFull : Nat → EA := (t_n 9 (t_n 4 (t_n 1 (t_l 0 (a_aload 1 0)) (t_l 1 (a_getf 2 2))) (t_n 6 (t_l 4 (a_push 2 (.int 8))) (t_l 6 (a_ic 13 (fun x y => decide (x < y)))))) (t_n 13 (t_n 10 (t_l 9 (a_push 1 (.int 1))) (t_l 10 (a_goto 14))) (t_n 14 (t_l 13 (a_push 1 (.int 0))) (t_l 14 a_iret))))
set_option maxRecDepth 100000 in
theorem k_X2_isFull (sc : Nat × (Nat → Int32)) (d : Nat) : ∀ pc, ev_Ok cX2_isFull 1 [] RX2 lw_g lw_n (lw_q sc) vwCl false (ev_CO mt lw_g lw_n (lw_q sc) vwCl d) pc (g_X2_isFull pc) := (ok_t_n (ok_t_n (ok_t_n (ok_t_l (ok_aload_n dX2_isFull_0 rfl)) (ok_t_l (ok_getfield dX2_isFull_1 (ci := 2) (kf := 2) rfl inGX2 (by decide) w_1039))) (ok_t_n (ok_t_l (ok_bipush dX2_isFull_4 rfl)) (ok_t_l (ok_icmp_lt dX2_isFull_6 rfl)))) (ok_t_n (ok_t_n (ok_t_l (ok_iconst dX2_isFull_9 rfl)) (ok_t_l (ok_goto dX2_isFull_10 rfl))) (ok_t_n (ok_t_l (ok_iconst dX2_isFull_13 rfl)) (ok_t_l (ok_ireturn dX2_isFull_14)))))
theorem dX2_add_0 : decode cX2_add 0 = .ok (.aload_n 0, 1) := by decide +kernel
theorem dX2_add_1 : decode cX2_add 1 = .ok (.invokevirtual 22, 3) := by decide +kernel
theorem dX2_add_4 : decode cX2_add 4 = .ok (.ifCond .eq 5, 3) := by decide +kernel
theorem dX2_add_7 : decode cX2_add 7 = .ok (.iconst (-1), 1) := by decide +kernel
theorem dX2_add_8 : decode cX2_add 8 = .ok (.ireturn, 1) := by decide +kernel
theorem dX2_add_9 : decode cX2_add 9 = .ok (.aload_n 0, 1) := by decide +kernel
theorem dX2_add_10 : decode cX2_add 10 = .ok (.getfield 9, 3) := by decide +kernel
theorem dX2_add_13 : decode cX2_add 13 = .ok (.aload_n 0, 1) := by decide +kernel
theorem dX2_add_14 : decode cX2_add 14 = .ok (.getfield 18, 3) := by decide +kernel
theorem dX2_add_17 : decode cX2_add 17 = .ok (.iload_n 1, 1) := by decide +kernel
theorem dX2_add_18 : decode cX2_add 18 = .ok (.iastore, 1) := by decide +kernel
theorem dX2_add_19 : decode cX2_add 19 = .ok (.aload_n 0, 1) := by decide +kernel
theorem dX2_add_20 : decode cX2_add 20 = .ok (.getfield 15, 3) := by decide +kernel
theorem dX2_add_23 : decode cX2_add 23 = .ok (.aload_n 0, 1) := by decide +kernel
theorem dX2_add_24 : decode cX2_add 24 = .ok (.getfield 18, 3) := by decide +kernel
theorem dX2_add_27 : decode cX2_add 27 = .ok (.iload_n 2, 1) := by decide +kernel
theorem dX2_add_28 : decode cX2_add 28 = .ok (.iastore, 1) := by decide +kernel
theorem dX2_add_29 : decode cX2_add 29 = .ok (.aload_n 0, 1) := by decide +kernel
theorem dX2_add_30 : decode cX2_add 30 = .ok (.dup, 1) := by decide +kernel
theorem dX2_add_31 : decode cX2_add 31 = .ok (.getfield 18, 3) := by decide +kernel
theorem dX2_add_34 : decode cX2_add 34 = .ok (.iconst 1, 1) := by decide +kernel
theorem dX2_add_35 : decode cX2_add 35 = .ok (.iadd, 1) := by decide +kernel
theorem dX2_add_36 : decode cX2_add 36 = .ok (.putfield 18, 3) := by decide +kernel
theorem dX2_add_39 : decode cX2_add 39 = .ok (.aload_n 0, 1) := by decide +kernel
theorem dX2_add_40 : decode cX2_add 40 = .ok (.getfield 18, 3) := by decide +kernel
theorem dX2_add_43 : decode cX2_add 43 = .ok (.iconst 1, 1) := by decide +kernel
theorem dX2_add_44 : decode cX2_add 44 = .ok (.isub, 1) := by decide +kernel
theorem dX2_add_45 : decode cX2_add 45 = .ok (.ireturn, 1) := by decide +kernel
def g_X2_add : Nat → EA := (t_n 24 (t_n 13 (t_n 7 (t_n 1 (t_l 0 (a_aload 1 0)) (t_n 4 (t_l 1 (a_inv true 11 1 (some 2))) (t_l 4 (a_if 9 (fun x => decide (x = 0)))))) (t_n 9 (t_n 8 (t_l 7 (a_push 1 (.int (-1)))) (t_l 8 a_iret)) (t_n 10 (t_l 9 (a_aload 1 0)) (t_l 10 (a_getf 2 0))))) (t_n 18 (t_n 14 (t_l 13 (a_aload 1 0)) (t_n 17 (t_l 14 (a_getf 2 2)) (t_l 17 (a_iload 1 1)))) (t_n 20 (t_n 19 (t_l 18 (a_ist 0)) (t_l 19 (a_aload 1 0))) (t_n 23 (t_l 20 (a_getf 2 1)) (t_l 23 (a_aload 1 0)))))) (t_n 35 (t_n 29 (t_n 27 (t_l 24 (a_getf 2 2)) (t_n 28 (t_l 27 (a_iload 1 2)) (t_l 28 (a_ist 0)))) (t_n 31 (t_n 30 (t_l 29 (a_aload 1 0)) (t_l 30 a_dup)) (t_n 34 (t_l 31 (a_getf 2 2)) (t_l 34 (a_push 1 (.int 1)))))) (t_n 40 (t_n 36 (t_l 35 (a_ii 1 (fun x y => x + y))) (t_n 39 (t_l 36 (a_putf 0 2 2)) (t_l 39 (a_aload 1 0)))) (t_n 44 (t_n 43 (t_l 40 (a_getf 2 2)) (t_l 43 (a_push 1 (.int 1)))) (t_n 45 (t_l 44 (a_ii 1 (fun x y => x - y))) (t_l 45 a_iret))))))
set_option maxRecDepth 100000 in
theorem k_X2_add (sc : Nat × (Nat → Int32)) (d : Nat) : ∀ pc, ev_Ok cX2_add 3 [] RX2 lw_g lw_n (lw_q sc) vwCl false (ev_CO mt lw_g lw_n (lw_q sc) vwCl d) pc (g_X2_add pc) := (ok_t_n (ok_t_n (ok_t_n (ok_t_n (ok_t_l (ok_aload_n dX2_add_0 rfl)) (ok_t_n (ok_t_l (ok_inv (run_V (y := 11) (n := 0) (ci := 2) dX2_add_1 cz_11 gdG cc_11 ci_11 w_1525 cm_11 cs_11 cd_11 cl_11 rfl rfl))) (ok_t_l (ok_if_eq dX2_add_4 rfl)))) (ok_t_n (ok_t_n (ok_t_l (ok_iconst dX2_add_7 rfl)) (ok_t_l (ok_ireturn dX2_add_8))) (ok_t_n (ok_t_l (ok_aload_n dX2_add_9 rfl)) (ok_t_l (ok_getfield dX2_add_10 (ci := 2) (kf := 0) rfl inGX2 (by decide) w_1037))))) (ok_t_n (ok_t_n (ok_t_l (ok_aload_n dX2_add_13 rfl)) (ok_t_n (ok_t_l (ok_getfield dX2_add_14 (ci := 2) (kf := 2) rfl inGX2 (by decide) w_1039)) (ok_t_l (ok_iload_n dX2_add_17 rfl)))) (ok_t_n (ok_t_n (ok_t_l (ok_iastore dX2_add_18)) (ok_t_l (ok_aload_n dX2_add_19 rfl))) (ok_t_n (ok_t_l (ok_getfield dX2_add_20 (ci := 2) (kf := 1) rfl inGX2 (by decide) w_1038)) (ok_t_l (ok_aload_n dX2_add_23 rfl)))))) (ok_t_n (ok_t_n (ok_t_n (ok_t_l (ok_getfield dX2_add_24 (ci := 2) (kf := 2) rfl inGX2 (by decide) w_1039)) (ok_t_n (ok_t_l (ok_iload_n dX2_add_27 rfl)) (ok_t_l (ok_iastore dX2_add_28)))) (ok_t_n (ok_t_n (ok_t_l (ok_aload_n dX2_add_29 rfl)) (ok_t_l (ok_dup dX2_add_30))) (ok_t_n (ok_t_l (ok_getfield dX2_add_31 (ci := 2) (kf := 2) rfl inGX2 (by decide) w_1039)) (ok_t_l (ok_iconst dX2_add_34 rfl))))) (ok_t_n (ok_t_n (ok_t_l (ok_iadd dX2_add_35)) (ok_t_n (ok_t_l (ok_putfield dX2_add_36 (ci := 2) (kf := 2) rfl inGX2 (by decide) tyX2_ok nmX2 rfl w_1039 rfl)) (ok_t_l (ok_aload_n dX2_add_39 rfl)))) (ok_t_n (ok_t_n (ok_t_l (ok_getfield dX2_add_40 (ci := 2) (kf := 2) rfl inGX2 (by decide) w_1039)) (ok_t_l (ok_iconst dX2_add_43 rfl))) (ok_t_n (ok_t_l (ok_isub dX2_add_44)) (ok_t_l (ok_ireturn dX2_add_45)))))))
theorem dX2_removeAll_0 : decode cX2_removeAll 0 = .ok (.aload_n 0, 1) := by decide +kernel
theorem dX2_removeAll_1 : decode cX2_removeAll 1 = .ok (.getfield 18, 3) := by decide +kernel
theorem dX2_removeAll_4 : decode cX2_removeAll 4 = .ok (.istore_n 1, 1) := by decide +kernel
theorem dX2_removeAll_5 : decode cX2_removeAll 5 = .ok (.aload_n 0, 1) := by decide +kernel
theorem dX2_removeAll_6 : decode cX2_removeAll 6 = .ok (.iconst 0, 1) := by decide +kernel
theorem dX2_removeAll_7 : decode cX2_removeAll 7 = .ok (.putfield 18, 3) := by decide +kernel
theorem dX2_removeAll_10 : decode cX2_removeAll 10 = .ok (.iload_n 1, 1) := by decide +kernel
theorem dX2_removeAll_11 : decode cX2_removeAll 11 = .ok (.ireturn, 1) := by decide +kernel
def g_X2_removeAll : Nat → EA := (t_n 6 (t_n 4 (t_n 1 (t_l 0 (a_aload 1 0)) (t_l 1 (a_getf 2 2))) (t_n 5 (t_l 4 (a_istore 2 1 1)) (t_l 5 (a_aload 1 0)))) (t_n 10 (t_n 7 (t_l 6 (a_push 1 (.int 0))) (t_l 7 (a_putf 0 2 2))) (t_n 11 (t_l 10 (a_iload 1 1)) (t_l 11 a_iret))))
set_option maxRecDepth 100000 in
theorem k_X2_removeAll (sc : Nat × (Nat → Int32)) (d : Nat) : ∀ pc, ev_Ok cX2_removeAll 2 [] RX2 lw_g lw_n (lw_q sc) vwCl false (ev_CO mt lw_g lw_n (lw_q sc) vwCl d) pc (g_X2_removeAll pc) := (ok_t_n (ok_t_n (ok_t_n (ok_t_l (ok_aload_n dX2_removeAll_0 rfl)) (ok_t_l (ok_getfield dX2_removeAll_1 (ci := 2) (kf := 2) rfl inGX2 (by decide) w_1039))) (ok_t_n (ok_t_l (ok_istore_n dX2_removeAll_4 rfl)) (ok_t_l (ok_aload_n dX2_removeAll_5 rfl)))) (ok_t_n (ok_t_n (ok_t_l (ok_iconst dX2_removeAll_6 rfl)) (ok_t_l (ok_putfield dX2_removeAll_7 (ci := 2) (kf := 2) rfl inGX2 (by decide) tyX2_ok nmX2 rfl w_1039 rfl))) (ok_t_n (ok_t_l (ok_iload_n dX2_removeAll_10 rfl)) (ok_t_l (ok_ireturn dX2_removeAll_11)))))
theorem dX2_hasAny_0 : decode cX2_hasAny 0 = .ok (.iconst 0, 1) := by decide +kernel
theorem dX2_hasAny_1 : decode cX2_hasAny 1 = .ok (.istore_n 2, 1) := by decide +kernel
theorem dX2_hasAny_2 : decode cX2_hasAny 2 = .ok (.iload_n 2, 1) := by decide +kernel
theorem dX2_hasAny_3 : decode cX2_hasAny 3 = .ok (.aload_n 0, 1) := by decide +kernel
theorem dX2_hasAny_4 : decode cX2_hasAny 4 = .ok (.getfield 18, 3) := by decide +kernel
theorem dX2_hasAny_7 : decode cX2_hasAny 7 = .ok (.if_icmp .ge 28, 3) := by decide +kernel
theorem dX2_hasAny_10 : decode cX2_hasAny 10 = .ok (.iload_n 2, 1) := by decide +kernel
theorem dX2_hasAny_11 : decode cX2_hasAny 11 = .ok (.bipush 8, 2) := by decide +kernel
theorem dX2_hasAny_13 : decode cX2_hasAny 13 = .ok (.if_icmp .ge 22, 3) := by decide +kernel
theorem dX2_hasAny_16 : decode cX2_hasAny 16 = .ok (.aload_n 0, 1) := by decide +kernel
theorem dX2_hasAny_17 : decode cX2_hasAny 17 = .ok (.getfield 9, 3) := by decide +kernel
theorem dX2_hasAny_20 : decode cX2_hasAny 20 = .ok (.iload_n 2, 1) := by decide +kernel
theorem dX2_hasAny_21 : decode cX2_hasAny 21 = .ok (.iaload, 1) := by decide +kernel
theorem dX2_hasAny_22 : decode cX2_hasAny 22 = .ok (.iload_n 1, 1) := by decide +kernel
theorem dX2_hasAny_23 : decode cX2_hasAny 23 = .ok (.iand, 1) := by decide +kernel
theorem dX2_hasAny_24 : decode cX2_hasAny 24 = .ok (.ifCond .eq 5, 3) := by decide +kernel
theorem dX2_hasAny_27 : decode cX2_hasAny 27 = .ok (.iconst 1, 1) := by decide +kernel
theorem dX2_hasAny_28 : decode cX2_hasAny 28 = .ok (.ireturn, 1) := by decide +kernel
theorem dX2_hasAny_29 : decode cX2_hasAny 29 = .ok (.iinc 2 1, 3) := by decide +kernel
theorem dX2_hasAny_32 : decode cX2_hasAny 32 = .ok (.goto (-30), 3) := by decide +kernel
theorem dX2_hasAny_35 : decode cX2_hasAny 35 = .ok (.iconst 0, 1) := by decide +kernel
theorem dX2_hasAny_36 : decode cX2_hasAny 36 = .ok (.ireturn, 1) := by decide +kernel
def g_X2_hasAny : Nat → EA := (t_n 20 (t_n 7 (t_n 2 (t_n 1 (t_l 0 (a_push 1 (.int 0))) (t_l 1 (a_istore 3 1 2))) (t_n 3 (t_l 2 (a_iload 1 2)) (t_n 4 (t_l 3 (a_aload 1 0)) (t_l 4 (a_getf 2 2))))) (t_n 13 (t_n 10 (t_l 7 (a_ic 35 (fun x y => decide (y ≤ x)))) (t_n 11 (t_l 10 (a_iload 1 2)) (t_l 11 (a_push 2 (.int 8))))) (t_n 16 (t_l 13 (a_ic 35 (fun x y => decide (y ≤ x)))) (t_n 17 (t_l 16 (a_aload 1 0)) (t_l 17 (a_getf 2 0)))))) (t_n 27 (t_n 22 (t_n 21 (t_l 20 (a_iload 1 2)) (t_l 21 (a_ild 0))) (t_n 23 (t_l 22 (a_iload 1 1)) (t_n 24 (t_l 23 (a_ii 1 (fun x y => x &&& y))) (t_l 24 (a_if 29 (fun x => decide (x = 0))))))) (t_n 32 (t_n 28 (t_l 27 (a_push 1 (.int 1))) (t_n 29 (t_l 28 a_iret) (t_l 29 (a_iinc 3 2 1)))) (t_n 35 (t_l 32 (a_goto 2)) (t_n 36 (t_l 35 (a_push 1 (.int 0))) (t_l 36 a_iret))))))
set_option maxRecDepth 100000 in
theorem k_X2_hasAny (sc : Nat × (Nat → Int32)) (d : Nat) : ∀ pc, ev_Ok cX2_hasAny 3 [] RX2 lw_g lw_n (lw_q sc) vwCl false (ev_CO mt lw_g lw_n (lw_q sc) vwCl d) pc (g_X2_hasAny pc) := (ok_t_n (ok_t_n (ok_t_n (ok_t_n (ok_t_l (ok_iconst dX2_hasAny_0 rfl)) (ok_t_l (ok_istore_n dX2_hasAny_1 rfl))) (ok_t_n (ok_t_l (ok_iload_n dX2_hasAny_2 rfl)) (ok_t_n (ok_t_l (ok_aload_n dX2_hasAny_3 rfl)) (ok_t_l (ok_getfield dX2_hasAny_4 (ci := 2) (kf := 2) rfl inGX2 (by decide) w_1039))))) (ok_t_n (ok_t_n (ok_t_l (ok_icmp_ge dX2_hasAny_7 rfl)) (ok_t_n (ok_t_l (ok_iload_n dX2_hasAny_10 rfl)) (ok_t_l (ok_bipush dX2_hasAny_11 rfl)))) (ok_t_n (ok_t_l (ok_icmp_ge dX2_hasAny_13 rfl)) (ok_t_n (ok_t_l (ok_aload_n dX2_hasAny_16 rfl)) (ok_t_l (ok_getfield dX2_hasAny_17 (ci := 2) (kf := 0) rfl inGX2 (by decide) w_1037)))))) (ok_t_n (ok_t_n (ok_t_n (ok_t_l (ok_iload_n dX2_hasAny_20 rfl)) (ok_t_l (ok_iaload dX2_hasAny_21))) (ok_t_n (ok_t_l (ok_iload_n dX2_hasAny_22 rfl)) (ok_t_n (ok_t_l (ok_iand dX2_hasAny_23)) (ok_t_l (ok_if_eq dX2_hasAny_24 rfl))))) (ok_t_n (ok_t_n (ok_t_l (ok_iconst dX2_hasAny_27 rfl)) (ok_t_n (ok_t_l (ok_ireturn dX2_hasAny_28)) (ok_t_l (ok_iinc dX2_hasAny_29 rfl)))) (ok_t_n (ok_t_l (ok_goto dX2_hasAny_32 rfl)) (ok_t_n (ok_t_l (ok_iconst dX2_hasAny_35 rfl)) (ok_t_l (ok_ireturn dX2_hasAny_36)))))))
theorem dX2_itemOf_0 : decode cX2_itemOf 0 = .ok (.iconst 0, 1) := by decide +kernel
theorem dX2_itemOf_1 : decode cX2_itemOf 1 = .ok (.istore_n 2, 1) := by decide +kernel
theorem dX2_itemOf_2 : decode cX2_itemOf 2 = .ok (.iload_n 2, 1) := by decide +kernel
theorem dX2_itemOf_3 : decode cX2_itemOf 3 = .ok (.aload_n 0, 1) := by decide +kernel
theorem dX2_itemOf_4 : decode cX2_itemOf 4 = .ok (.getfield 18, 3) := by decide +kernel
theorem dX2_itemOf_7 : decode cX2_itemOf 7 = .ok (.if_icmp .ge 30, 3) := by decide +kernel
theorem dX2_itemOf_10 : decode cX2_itemOf 10 = .ok (.iload_n 2, 1) := by decide +kernel
theorem dX2_itemOf_11 : decode cX2_itemOf 11 = .ok (.bipush 8, 2) := by decide +kernel
theorem dX2_itemOf_13 : decode cX2_itemOf 13 = .ok (.if_icmp .ge 24, 3) := by decide +kernel
theorem dX2_itemOf_16 : decode cX2_itemOf 16 = .ok (.aload_n 0, 1) := by decide +kernel
theorem dX2_itemOf_17 : decode cX2_itemOf 17 = .ok (.getfield 9, 3) := by decide +kernel
theorem dX2_itemOf_20 : decode cX2_itemOf 20 = .ok (.iload_n 2, 1) := by decide +kernel
theorem dX2_itemOf_21 : decode cX2_itemOf 21 = .ok (.iaload, 1) := by decide +kernel
theorem dX2_itemOf_22 : decode cX2_itemOf 22 = .ok (.iload_n 1, 1) := by decide +kernel
theorem dX2_itemOf_23 : decode cX2_itemOf 23 = .ok (.invokestatic 26, 3) := by decide +kernel
theorem dX2_itemOf_26 : decode cX2_itemOf 26 = .ok (.ifCond .eq 5, 3) := by decide +kernel
theorem dX2_itemOf_29 : decode cX2_itemOf 29 = .ok (.iload_n 2, 1) := by decide +kernel
theorem dX2_itemOf_30 : decode cX2_itemOf 30 = .ok (.ireturn, 1) := by decide +kernel
theorem dX2_itemOf_31 : decode cX2_itemOf 31 = .ok (.iinc 2 1, 3) := by decide +kernel
theorem dX2_itemOf_34 : decode cX2_itemOf 34 = .ok (.goto (-32), 3) := by decide +kernel
theorem dX2_itemOf_37 : decode cX2_itemOf 37 = .ok (.iconst (-1), 1) := by decide +kernel
theorem dX2_itemOf_38 : decode cX2_itemOf 38 = .ok (.ireturn, 1) := by decide +kernel
def g_X2_itemOf : Nat → EA := (t_n 20 (t_n 7 (t_n 2 (t_n 1 (t_l 0 (a_push 1 (.int 0))) (t_l 1 (a_istore 3 1 2))) (t_n 3 (t_l 2 (a_iload 1 2)) (t_n 4 (t_l 3 (a_aload 1 0)) (t_l 4 (a_getf 2 2))))) (t_n 13 (t_n 10 (t_l 7 (a_ic 37 (fun x y => decide (y ≤ x)))) (t_n 11 (t_l 10 (a_iload 1 2)) (t_l 11 (a_push 2 (.int 8))))) (t_n 16 (t_l 13 (a_ic 37 (fun x y => decide (y ≤ x)))) (t_n 17 (t_l 16 (a_aload 1 0)) (t_l 17 (a_getf 2 0)))))) (t_n 29 (t_n 22 (t_n 21 (t_l 20 (a_iload 1 2)) (t_l 21 (a_ild 0))) (t_n 23 (t_l 22 (a_iload 1 1)) (t_n 26 (t_l 23 (a_inv false 196 2 none)) (t_l 26 (a_if 31 (fun x => decide (x = 0))))))) (t_n 34 (t_n 30 (t_l 29 (a_iload 1 2)) (t_n 31 (t_l 30 a_iret) (t_l 31 (a_iinc 3 2 1)))) (t_n 37 (t_l 34 (a_goto 2)) (t_n 38 (t_l 37 (a_push 1 (.int (-1)))) (t_l 38 a_iret))))))
set_option maxRecDepth 100000 in
theorem k_X2_itemOf (sc : Nat × (Nat → Int32)) (d : Nat) : ∀ pc, ev_Ok cX2_itemOf 3 [] RX2 lw_g lw_n (lw_q sc) vwCl false (ev_CO mt lw_g lw_n (lw_q sc) vwCl d) pc (g_X2_itemOf pc) := (ok_t_n (ok_t_n (ok_t_n (ok_t_n (ok_t_l (ok_iconst dX2_itemOf_0 rfl)) (ok_t_l (ok_istore_n dX2_itemOf_1 rfl))) (ok_t_n (ok_t_l (ok_iload_n dX2_itemOf_2 rfl)) (ok_t_n (ok_t_l (ok_aload_n dX2_itemOf_3 rfl)) (ok_t_l (ok_getfield dX2_itemOf_4 (ci := 2) (kf := 2) rfl inGX2 (by decide) w_1039))))) (ok_t_n (ok_t_n (ok_t_l (ok_icmp_ge dX2_itemOf_7 rfl)) (ok_t_n (ok_t_l (ok_iload_n dX2_itemOf_10 rfl)) (ok_t_l (ok_bipush dX2_itemOf_11 rfl)))) (ok_t_n (ok_t_l (ok_icmp_ge dX2_itemOf_13 rfl)) (ok_t_n (ok_t_l (ok_aload_n dX2_itemOf_16 rfl)) (ok_t_l (ok_getfield dX2_itemOf_17 (ci := 2) (kf := 0) rfl inGX2 (by decide) w_1037)))))) (ok_t_n (ok_t_n (ok_t_n (ok_t_l (ok_iload_n dX2_itemOf_20 rfl)) (ok_t_l (ok_iaload dX2_itemOf_21))) (ok_t_n (ok_t_l (ok_iload_n dX2_itemOf_22 rfl)) (ok_t_n (ok_t_l (ok_inv (run_SN (y := 196) (n := 2) dX2_itemOf_23 cz_196 gdG cc_196 ci_196 nst_2 cm_196 cd_196 cl_196))) (ok_t_l (ok_if_eq dX2_itemOf_26 rfl))))) (ok_t_n (ok_t_n (ok_t_l (ok_iload_n dX2_itemOf_29 rfl)) (ok_t_n (ok_t_l (ok_ireturn dX2_itemOf_30)) (ok_t_l (ok_iinc dX2_itemOf_31 rfl)))) (ok_t_n (ok_t_l (ok_goto dX2_itemOf_34 rfl)) (ok_t_n (ok_t_l (ok_iconst dX2_itemOf_37 rfl)) (ok_t_l (ok_ireturn dX2_itemOf_38)))))))
theorem dX2_set_0 : decode cX2_set 0 = .ok (.iload_n 1, 1) := by decide +kernel
theorem dX2_set_1 : decode cX2_set 1 = .ok (.ifCond .lt 26, 3) := by decide +kernel
theorem dX2_set_4 : decode cX2_set 4 = .ok (.iload_n 1, 1) := by decide +kernel
theorem dX2_set_5 : decode cX2_set 5 = .ok (.aload_n 0, 1) := by decide +kernel
theorem dX2_set_6 : decode cX2_set 6 = .ok (.getfield 18, 3) := by decide +kernel
theorem dX2_set_9 : decode cX2_set 9 = .ok (.if_icmp .ge 18, 3) := by decide +kernel
theorem dX2_set_12 : decode cX2_set 12 = .ok (.iload_n 1, 1) := by decide +kernel
theorem dX2_set_13 : decode cX2_set 13 = .ok (.bipush 8, 2) := by decide +kernel
theorem dX2_set_15 : decode cX2_set 15 = .ok (.if_icmp .ge 12, 3) := by decide +kernel
theorem dX2_set_18 : decode cX2_set 18 = .ok (.aload_n 0, 1) := by decide +kernel
theorem dX2_set_19 : decode cX2_set 19 = .ok (.getfield 9, 3) := by decide +kernel
theorem dX2_set_22 : decode cX2_set 22 = .ok (.iload_n 1, 1) := by decide +kernel
theorem dX2_set_23 : decode cX2_set 23 = .ok (.iaload, 1) := by decide +kernel
theorem dX2_set_24 : decode cX2_set 24 = .ok (.goto 4, 3) := by decide +kernel
theorem dX2_set_27 : decode cX2_set 27 = .ok (.iconst 0, 1) := by decide +kernel
theorem dX2_set_28 : decode cX2_set 28 = .ok (.ireturn, 1) := by decide +kernel
def g_X2_set : Nat → EA := (t_n 15 (t_n 6 (t_n 4 (t_n 1 (t_l 0 (a_iload 1 1)) (t_l 1 (a_if 27 (fun x => decide (x < 0))))) (t_n 5 (t_l 4 (a_iload 1 1)) (t_l 5 (a_aload 1 0)))) (t_n 12 (t_n 9 (t_l 6 (a_getf 2 2)) (t_l 9 (a_ic 27 (fun x y => decide (y ≤ x))))) (t_n 13 (t_l 12 (a_iload 1 1)) (t_l 13 (a_push 2 (.int 8)))))) (t_n 23 (t_n 19 (t_n 18 (t_l 15 (a_ic 27 (fun x y => decide (y ≤ x)))) (t_l 18 (a_aload 1 0))) (t_n 22 (t_l 19 (a_getf 2 0)) (t_l 22 (a_iload 1 1)))) (t_n 27 (t_n 24 (t_l 23 (a_ild 0)) (t_l 24 (a_goto 28))) (t_n 28 (t_l 27 (a_push 1 (.int 0))) (t_l 28 a_iret)))))
set_option maxRecDepth 100000 in
theorem k_X2_set (sc : Nat × (Nat → Int32)) (d : Nat) : ∀ pc, ev_Ok cX2_set 2 [] RX2 lw_g lw_n (lw_q sc) vwCl false (ev_CO mt lw_g lw_n (lw_q sc) vwCl d) pc (g_X2_set pc) := (ok_t_n (ok_t_n (ok_t_n (ok_t_n (ok_t_l (ok_iload_n dX2_set_0 rfl)) (ok_t_l (ok_if_lt dX2_set_1 rfl))) (ok_t_n (ok_t_l (ok_iload_n dX2_set_4 rfl)) (ok_t_l (ok_aload_n dX2_set_5 rfl)))) (ok_t_n (ok_t_n (ok_t_l (ok_getfield dX2_set_6 (ci := 2) (kf := 2) rfl inGX2 (by decide) w_1039)) (ok_t_l (ok_icmp_ge dX2_set_9 rfl))) (ok_t_n (ok_t_l (ok_iload_n dX2_set_12 rfl)) (ok_t_l (ok_bipush dX2_set_13 rfl))))) (ok_t_n (ok_t_n (ok_t_n (ok_t_l (ok_icmp_ge dX2_set_15 rfl)) (ok_t_l (ok_aload_n dX2_set_18 rfl))) (ok_t_n (ok_t_l (ok_getfield dX2_set_19 (ci := 2) (kf := 0) rfl inGX2 (by decide) w_1037)) (ok_t_l (ok_iload_n dX2_set_22 rfl)))) (ok_t_n (ok_t_n (ok_t_l (ok_iaload dX2_set_23)) (ok_t_l (ok_goto dX2_set_24 rfl))) (ok_t_n (ok_t_l (ok_iconst dX2_set_27 rfl)) (ok_t_l (ok_ireturn dX2_set_28))))))
theorem dX2_isPlain_0 : decode cX2_isPlain 0 = .ok (.iload_n 1, 1) := by decide +kernel
theorem dX2_isPlain_1 : decode cX2_isPlain 1 = .ok (.ifCond .lt 30, 3) := by decide +kernel
theorem dX2_isPlain_4 : decode cX2_isPlain 4 = .ok (.iload_n 1, 1) := by decide +kernel
theorem dX2_isPlain_5 : decode cX2_isPlain 5 = .ok (.aload_n 0, 1) := by decide +kernel
theorem dX2_isPlain_6 : decode cX2_isPlain 6 = .ok (.getfield 18, 3) := by decide +kernel
theorem dX2_isPlain_9 : decode cX2_isPlain 9 = .ok (.if_icmp .ge 22, 3) := by decide +kernel
theorem dX2_isPlain_12 : decode cX2_isPlain 12 = .ok (.iload_n 1, 1) := by decide +kernel
theorem dX2_isPlain_13 : decode cX2_isPlain 13 = .ok (.bipush 8, 2) := by decide +kernel
theorem dX2_isPlain_15 : decode cX2_isPlain 15 = .ok (.if_icmp .ge 16, 3) := by decide +kernel
theorem dX2_isPlain_18 : decode cX2_isPlain 18 = .ok (.aload_n 0, 1) := by decide +kernel
theorem dX2_isPlain_19 : decode cX2_isPlain 19 = .ok (.getfield 15, 3) := by decide +kernel
theorem dX2_isPlain_22 : decode cX2_isPlain 22 = .ok (.iload_n 1, 1) := by decide +kernel
theorem dX2_isPlain_23 : decode cX2_isPlain 23 = .ok (.iaload, 1) := by decide +kernel
theorem dX2_isPlain_24 : decode cX2_isPlain 24 = .ok (.ifCond .ne 7, 3) := by decide +kernel
theorem dX2_isPlain_27 : decode cX2_isPlain 27 = .ok (.iconst 1, 1) := by decide +kernel
theorem dX2_isPlain_28 : decode cX2_isPlain 28 = .ok (.goto 4, 3) := by decide +kernel
theorem dX2_isPlain_31 : decode cX2_isPlain 31 = .ok (.iconst 0, 1) := by decide +kernel
theorem dX2_isPlain_32 : decode cX2_isPlain 32 = .ok (.ireturn, 1) := by decide +kernel
def g_X2_isPlain : Nat → EA := (t_n 18 (t_n 6 (t_n 4 (t_n 1 (t_l 0 (a_iload 1 1)) (t_l 1 (a_if 31 (fun x => decide (x < 0))))) (t_n 5 (t_l 4 (a_iload 1 1)) (t_l 5 (a_aload 1 0)))) (t_n 12 (t_n 9 (t_l 6 (a_getf 2 2)) (t_l 9 (a_ic 31 (fun x y => decide (y ≤ x))))) (t_n 13 (t_l 12 (a_iload 1 1)) (t_n 15 (t_l 13 (a_push 2 (.int 8))) (t_l 15 (a_ic 31 (fun x y => decide (y ≤ x)))))))) (t_n 24 (t_n 22 (t_n 19 (t_l 18 (a_aload 1 0)) (t_l 19 (a_getf 2 1))) (t_n 23 (t_l 22 (a_iload 1 1)) (t_l 23 (a_ild 0)))) (t_n 28 (t_n 27 (t_l 24 (a_if 31 (fun x => !decide (x = 0)))) (t_l 27 (a_push 1 (.int 1)))) (t_n 31 (t_l 28 (a_goto 32)) (t_n 32 (t_l 31 (a_push 1 (.int 0))) (t_l 32 a_iret))))))
set_option maxRecDepth 100000 in
theorem k_X2_isPlain (sc : Nat × (Nat → Int32)) (d : Nat) : ∀ pc, ev_Ok cX2_isPlain 2 [] RX2 lw_g lw_n (lw_q sc) vwCl false (ev_CO mt lw_g lw_n (lw_q sc) vwCl d) pc (g_X2_isPlain pc) := (ok_t_n (ok_t_n (ok_t_n (ok_t_n (ok_t_l (ok_iload_n dX2_isPlain_0 rfl)) (ok_t_l (ok_if_lt dX2_isPlain_1 rfl))) (ok_t_n (ok_t_l (ok_iload_n dX2_isPlain_4 rfl)) (ok_t_l (ok_aload_n dX2_isPlain_5 rfl)))) (ok_t_n (ok_t_n (ok_t_l (ok_getfield dX2_isPlain_6 (ci := 2) (kf := 2) rfl inGX2 (by decide) w_1039)) (ok_t_l (ok_icmp_ge dX2_isPlain_9 rfl))) (ok_t_n (ok_t_l (ok_iload_n dX2_isPlain_12 rfl)) (ok_t_n (ok_t_l (ok_bipush dX2_isPlain_13 rfl)) (ok_t_l (ok_icmp_ge dX2_isPlain_15 rfl)))))) (ok_t_n (ok_t_n (ok_t_n (ok_t_l (ok_aload_n dX2_isPlain_18 rfl)) (ok_t_l (ok_getfield dX2_isPlain_19 (ci := 2) (kf := 1) rfl inGX2 (by decide) w_1038))) (ok_t_n (ok_t_l (ok_iload_n dX2_isPlain_22 rfl)) (ok_t_l (ok_iaload dX2_isPlain_23)))) (ok_t_n (ok_t_n (ok_t_l (ok_if_ne dX2_isPlain_24 rfl)) (ok_t_l (ok_iconst dX2_isPlain_27 rfl))) (ok_t_n (ok_t_l (ok_goto dX2_isPlain_28 rfl)) (ok_t_n (ok_t_l (ok_iconst dX2_isPlain_31 rfl)) (ok_t_l (ok_ireturn dX2_isPlain_32)))))))
theorem dX2_joinsAhead_0 : decode cX2_joinsAhead 0 = .ok (.iload_n 1, 1) := by decide +kernel
theorem dX2_joinsAhead_1 : decode cX2_joinsAhead 1 = .ok (.iconst 1, 1) := by decide +kernel
theorem dX2_joinsAhead_2 : decode cX2_joinsAhead 2 = .ok (.if_icmp .lt 42, 3) := by decide +kernel
theorem dX2_joinsAhead_5 : decode cX2_joinsAhead 5 = .ok (.iload_n 1, 1) := by decide +kernel
theorem dX2_joinsAhead_6 : decode cX2_joinsAhead 6 = .ok (.aload_n 0, 1) := by decide +kernel
theorem dX2_joinsAhead_7 : decode cX2_joinsAhead 7 = .ok (.getfield 18, 3) := by decide +kernel
theorem dX2_joinsAhead_10 : decode cX2_joinsAhead 10 = .ok (.if_icmp .ge 34, 3) := by decide +kernel
theorem dX2_joinsAhead_13 : decode cX2_joinsAhead 13 = .ok (.iload_n 1, 1) := by decide +kernel
theorem dX2_joinsAhead_14 : decode cX2_joinsAhead 14 = .ok (.bipush 8, 2) := by decide +kernel
theorem dX2_joinsAhead_16 : decode cX2_joinsAhead 16 = .ok (.if_icmp .ge 28, 3) := by decide +kernel
theorem dX2_joinsAhead_19 : decode cX2_joinsAhead 19 = .ok (.aload_n 0, 1) := by decide +kernel
theorem dX2_joinsAhead_20 : decode cX2_joinsAhead 20 = .ok (.getfield 15, 3) := by decide +kernel
theorem dX2_joinsAhead_23 : decode cX2_joinsAhead 23 = .ok (.iload_n 1, 1) := by decide +kernel
theorem dX2_joinsAhead_24 : decode cX2_joinsAhead 24 = .ok (.iaload, 1) := by decide +kernel
theorem dX2_joinsAhead_25 : decode cX2_joinsAhead 25 = .ok (.iconst 2, 1) := by decide +kernel
theorem dX2_joinsAhead_26 : decode cX2_joinsAhead 26 = .ok (.if_icmp .ne 18, 3) := by decide +kernel
theorem dX2_joinsAhead_29 : decode cX2_joinsAhead 29 = .ok (.aload_n 0, 1) := by decide +kernel
theorem dX2_joinsAhead_30 : decode cX2_joinsAhead 30 = .ok (.getfield 15, 3) := by decide +kernel
theorem dX2_joinsAhead_33 : decode cX2_joinsAhead 33 = .ok (.iload_n 1, 1) := by decide +kernel
theorem dX2_joinsAhead_34 : decode cX2_joinsAhead 34 = .ok (.iconst 1, 1) := by decide +kernel
theorem dX2_joinsAhead_35 : decode cX2_joinsAhead 35 = .ok (.isub, 1) := by decide +kernel
theorem dX2_joinsAhead_36 : decode cX2_joinsAhead 36 = .ok (.iaload, 1) := by decide +kernel
theorem dX2_joinsAhead_37 : decode cX2_joinsAhead 37 = .ok (.ifCond .eq 7, 3) := by decide +kernel
theorem dX2_joinsAhead_40 : decode cX2_joinsAhead 40 = .ok (.iconst 1, 1) := by decide +kernel
theorem dX2_joinsAhead_41 : decode cX2_joinsAhead 41 = .ok (.goto 4, 3) := by decide +kernel
theorem dX2_joinsAhead_44 : decode cX2_joinsAhead 44 = .ok (.iconst 0, 1) := by decide +kernel
theorem dX2_joinsAhead_45 : decode cX2_joinsAhead 45 = .ok (.ireturn, 1) := by decide +kernel
def g_X2_joinsAhead : Nat → EA := (t_n 24 (t_n 10 (t_n 5 (t_n 1 (t_l 0 (a_iload 1 1)) (t_n 2 (t_l 1 (a_push 1 (.int 1))) (t_l 2 (a_ic 44 (fun x y => decide (x < y)))))) (t_n 6 (t_l 5 (a_iload 1 1)) (t_n 7 (t_l 6 (a_aload 1 0)) (t_l 7 (a_getf 2 2))))) (t_n 16 (t_n 13 (t_l 10 (a_ic 44 (fun x y => decide (y ≤ x)))) (t_n 14 (t_l 13 (a_iload 1 1)) (t_l 14 (a_push 2 (.int 8))))) (t_n 20 (t_n 19 (t_l 16 (a_ic 44 (fun x y => decide (y ≤ x)))) (t_l 19 (a_aload 1 0))) (t_n 23 (t_l 20 (a_getf 2 1)) (t_l 23 (a_iload 1 1)))))) (t_n 35 (t_n 29 (t_n 25 (t_l 24 (a_ild 0)) (t_n 26 (t_l 25 (a_push 1 (.int 2))) (t_l 26 (a_ic 44 (fun x y => !decide (x = y)))))) (t_n 33 (t_n 30 (t_l 29 (a_aload 1 0)) (t_l 30 (a_getf 2 1))) (t_n 34 (t_l 33 (a_iload 1 1)) (t_l 34 (a_push 1 (.int 1)))))) (t_n 40 (t_n 36 (t_l 35 (a_ii 1 (fun x y => x - y))) (t_n 37 (t_l 36 (a_ild 0)) (t_l 37 (a_if 44 (fun x => decide (x = 0)))))) (t_n 44 (t_n 41 (t_l 40 (a_push 1 (.int 1))) (t_l 41 (a_goto 45))) (t_n 45 (t_l 44 (a_push 1 (.int 0))) (t_l 45 a_iret))))))
set_option maxRecDepth 100000 in
theorem k_X2_joinsAhead (sc : Nat × (Nat → Int32)) (d : Nat) : ∀ pc, ev_Ok cX2_joinsAhead 2 [] RX2 lw_g lw_n (lw_q sc) vwCl false (ev_CO mt lw_g lw_n (lw_q sc) vwCl d) pc (g_X2_joinsAhead pc) := (ok_t_n (ok_t_n (ok_t_n (ok_t_n (ok_t_l (ok_iload_n dX2_joinsAhead_0 rfl)) (ok_t_n (ok_t_l (ok_iconst dX2_joinsAhead_1 rfl)) (ok_t_l (ok_icmp_lt dX2_joinsAhead_2 rfl)))) (ok_t_n (ok_t_l (ok_iload_n dX2_joinsAhead_5 rfl)) (ok_t_n (ok_t_l (ok_aload_n dX2_joinsAhead_6 rfl)) (ok_t_l (ok_getfield dX2_joinsAhead_7 (ci := 2) (kf := 2) rfl inGX2 (by decide) w_1039))))) (ok_t_n (ok_t_n (ok_t_l (ok_icmp_ge dX2_joinsAhead_10 rfl)) (ok_t_n (ok_t_l (ok_iload_n dX2_joinsAhead_13 rfl)) (ok_t_l (ok_bipush dX2_joinsAhead_14 rfl)))) (ok_t_n (ok_t_n (ok_t_l (ok_icmp_ge dX2_joinsAhead_16 rfl)) (ok_t_l (ok_aload_n dX2_joinsAhead_19 rfl))) (ok_t_n (ok_t_l (ok_getfield dX2_joinsAhead_20 (ci := 2) (kf := 1) rfl inGX2 (by decide) w_1038)) (ok_t_l (ok_iload_n dX2_joinsAhead_23 rfl)))))) (ok_t_n (ok_t_n (ok_t_n (ok_t_l (ok_iaload dX2_joinsAhead_24)) (ok_t_n (ok_t_l (ok_iconst dX2_joinsAhead_25 rfl)) (ok_t_l (ok_icmp_ne dX2_joinsAhead_26 rfl)))) (ok_t_n (ok_t_n (ok_t_l (ok_aload_n dX2_joinsAhead_29 rfl)) (ok_t_l (ok_getfield dX2_joinsAhead_30 (ci := 2) (kf := 1) rfl inGX2 (by decide) w_1038))) (ok_t_n (ok_t_l (ok_iload_n dX2_joinsAhead_33 rfl)) (ok_t_l (ok_iconst dX2_joinsAhead_34 rfl))))) (ok_t_n (ok_t_n (ok_t_l (ok_isub dX2_joinsAhead_35)) (ok_t_n (ok_t_l (ok_iaload dX2_joinsAhead_36)) (ok_t_l (ok_if_eq dX2_joinsAhead_37 rfl)))) (ok_t_n (ok_t_n (ok_t_l (ok_iconst dX2_joinsAhead_40 rfl)) (ok_t_l (ok_goto dX2_joinsAhead_41 rfl))) (ok_t_n (ok_t_l (ok_iconst dX2_joinsAhead_44 rfl)) (ok_t_l (ok_ireturn dX2_joinsAhead_45)))))))
theorem dX2_groupEnd_0 : decode cX2_groupEnd 0 = .ok (.iload_n 1, 1) := by decide +kernel
theorem dX2_groupEnd_1 : decode cX2_groupEnd 1 = .ok (.iconst 1, 1) := by decide +kernel
theorem dX2_groupEnd_2 : decode cX2_groupEnd 2 = .ok (.iadd, 1) := by decide +kernel
theorem dX2_groupEnd_3 : decode cX2_groupEnd 3 = .ok (.istore_n 2, 1) := by decide +kernel
theorem dX2_groupEnd_4 : decode cX2_groupEnd 4 = .ok (.iload_n 2, 1) := by decide +kernel
theorem dX2_groupEnd_5 : decode cX2_groupEnd 5 = .ok (.aload_n 0, 1) := by decide +kernel
theorem dX2_groupEnd_6 : decode cX2_groupEnd 6 = .ok (.getfield 18, 3) := by decide +kernel
theorem dX2_groupEnd_9 : decode cX2_groupEnd 9 = .ok (.if_icmp .ge 19, 3) := by decide +kernel
theorem dX2_groupEnd_12 : decode cX2_groupEnd 12 = .ok (.aload_n 0, 1) := by decide +kernel
theorem dX2_groupEnd_13 : decode cX2_groupEnd 13 = .ok (.iload_n 2, 1) := by decide +kernel
theorem dX2_groupEnd_14 : decode cX2_groupEnd 14 = .ok (.invokevirtual 30, 3) := by decide +kernel
theorem dX2_groupEnd_17 : decode cX2_groupEnd 17 = .ok (.ifCond .ne 5, 3) := by decide +kernel
theorem dX2_groupEnd_20 : decode cX2_groupEnd 20 = .ok (.iload_n 2, 1) := by decide +kernel
theorem dX2_groupEnd_21 : decode cX2_groupEnd 21 = .ok (.ireturn, 1) := by decide +kernel
theorem dX2_groupEnd_22 : decode cX2_groupEnd 22 = .ok (.iinc 2 1, 3) := by decide +kernel
theorem dX2_groupEnd_25 : decode cX2_groupEnd 25 = .ok (.goto (-21), 3) := by decide +kernel
theorem dX2_groupEnd_28 : decode cX2_groupEnd 28 = .ok (.aload_n 0, 1) := by decide +kernel
theorem dX2_groupEnd_29 : decode cX2_groupEnd 29 = .ok (.getfield 18, 3) := by decide +kernel
theorem dX2_groupEnd_32 : decode cX2_groupEnd 32 = .ok (.ireturn, 1) := by decide +kernel
def g_X2_groupEnd : Nat → EA := (t_n 13 (t_n 4 (t_n 2 (t_n 1 (t_l 0 (a_iload 1 1)) (t_l 1 (a_push 1 (.int 1)))) (t_n 3 (t_l 2 (a_ii 1 (fun x y => x + y))) (t_l 3 (a_istore 3 1 2)))) (t_n 6 (t_n 5 (t_l 4 (a_iload 1 2)) (t_l 5 (a_aload 1 0))) (t_n 9 (t_l 6 (a_getf 2 2)) (t_n 12 (t_l 9 (a_ic 28 (fun x y => decide (y ≤ x)))) (t_l 12 (a_aload 1 0)))))) (t_n 22 (t_n 17 (t_n 14 (t_l 13 (a_iload 1 2)) (t_l 14 (a_inv true 18 2 (some 2)))) (t_n 20 (t_l 17 (a_if 22 (fun x => !decide (x = 0)))) (t_n 21 (t_l 20 (a_iload 1 2)) (t_l 21 a_iret)))) (t_n 28 (t_n 25 (t_l 22 (a_iinc 3 2 1)) (t_l 25 (a_goto 4))) (t_n 29 (t_l 28 (a_aload 1 0)) (t_n 32 (t_l 29 (a_getf 2 2)) (t_l 32 a_iret))))))
set_option maxRecDepth 100000 in
theorem k_X2_groupEnd (sc : Nat × (Nat → Int32)) (d : Nat) : ∀ pc, ev_Ok cX2_groupEnd 3 [] RX2 lw_g lw_n (lw_q sc) vwCl false (ev_CO mt lw_g lw_n (lw_q sc) vwCl d) pc (g_X2_groupEnd pc) := (ok_t_n (ok_t_n (ok_t_n (ok_t_n (ok_t_l (ok_iload_n dX2_groupEnd_0 rfl)) (ok_t_l (ok_iconst dX2_groupEnd_1 rfl))) (ok_t_n (ok_t_l (ok_iadd dX2_groupEnd_2)) (ok_t_l (ok_istore_n dX2_groupEnd_3 rfl)))) (ok_t_n (ok_t_n (ok_t_l (ok_iload_n dX2_groupEnd_4 rfl)) (ok_t_l (ok_aload_n dX2_groupEnd_5 rfl))) (ok_t_n (ok_t_l (ok_getfield dX2_groupEnd_6 (ci := 2) (kf := 2) rfl inGX2 (by decide) w_1039)) (ok_t_n (ok_t_l (ok_icmp_ge dX2_groupEnd_9 rfl)) (ok_t_l (ok_aload_n dX2_groupEnd_12 rfl)))))) (ok_t_n (ok_t_n (ok_t_n (ok_t_l (ok_iload_n dX2_groupEnd_13 rfl)) (ok_t_l (ok_inv (run_V (y := 18) (n := 1) (ci := 2) dX2_groupEnd_14 cz_18 gdG cc_18 ci_18 w_309 cm_18 cs_18 cd_18 cl_18 rfl rfl)))) (ok_t_n (ok_t_l (ok_if_ne dX2_groupEnd_17 rfl)) (ok_t_n (ok_t_l (ok_iload_n dX2_groupEnd_20 rfl)) (ok_t_l (ok_ireturn dX2_groupEnd_21))))) (ok_t_n (ok_t_n (ok_t_l (ok_iinc dX2_groupEnd_22 rfl)) (ok_t_l (ok_goto dX2_groupEnd_25 rfl))) (ok_t_n (ok_t_l (ok_aload_n dX2_groupEnd_28 rfl)) (ok_t_n (ok_t_l (ok_getfield dX2_groupEnd_29 (ci := 2) (kf := 2) rfl inGX2 (by decide) w_1039)) (ok_t_l (ok_ireturn dX2_groupEnd_32)))))))
theorem dX3_init_0 : decode cX3_init 0 = .ok (.aload_n 0, 1) := by decide +kernel
theorem dX3_init_1 : decode cX3_init 1 = .ok (.invokespecial 3, 3) := by decide +kernel
theorem dX3_init_4 : decode cX3_init 4 = .ok (.aload_n 0, 1) := by decide +kernel
theorem dX3_init_5 : decode cX3_init 5 = .ok (.bipush 24, 2) := by decide +kernel
theorem dX3_init_7 : decode cX3_init 7 = .ok (.newarray .int, 2) := by decide +kernel
theorem dX3_init_9 : decode cX3_init 9 = .ok (.putfield 9, 3) := by decide +kernel
theorem dX3_init_12 : decode cX3_init 12 = .ok (.aload_n 0, 1) := by decide +kernel
theorem dX3_init_13 : decode cX3_init 13 = .ok (.iconst 0, 1) := by decide +kernel
theorem dX3_init_14 : decode cX3_init 14 = .ok (.putfield 15, 3) := by decide +kernel
theorem dX3_init_17 : decode cX3_init 17 = .ok (.aload_n 0, 1) := by decide +kernel
theorem dX3_init_18 : decode cX3_init 18 = .ok (.bipush 24, 2) := by decide +kernel
theorem dX3_init_20 : decode cX3_init 20 = .ok (.newarray .int, 2) := by decide +kernel
theorem dX3_init_22 : decode cX3_init 22 = .ok (.putfield 19, 3) := by decide +kernel
theorem dX3_init_25 : decode cX3_init 25 = .ok (.aload_n 0, 1) := by decide +kernel
theorem dX3_init_26 : decode cX3_init 26 = .ok (.bipush 24, 2) := by decide +kernel
theorem dX3_init_28 : decode cX3_init 28 = .ok (.newarray .int, 2) := by decide +kernel
theorem dX3_init_30 : decode cX3_init 30 = .ok (.putfield 22, 3) := by decide +kernel
theorem dX3_init_33 : decode cX3_init 33 = .ok (.aload_n 0, 1) := by decide +kernel
theorem dX3_init_34 : decode cX3_init 34 = .ok (.bipush 24, 2) := by decide +kernel
theorem dX3_init_36 : decode cX3_init 36 = .ok (.newarray .int, 2) := by decide +kernel
theorem dX3_init_38 : decode cX3_init 38 = .ok (.putfield 25, 3) := by decide +kernel
theorem dX3_init_41 : decode cX3_init 41 = .ok (.aload_n 0, 1) := by decide +kernel
theorem dX3_init_42 : decode cX3_init 42 = .ok (.sipush 192, 3) := by decide +kernel
theorem dX3_init_45 : decode cX3_init 45 = .ok (.newarray .int, 2) := by decide +kernel
theorem dX3_init_47 : decode cX3_init 47 = .ok (.putfield 28, 3) := by decide +kernel
theorem dX3_init_50 : decode cX3_init 50 = .ok (.aload_n 0, 1) := by decide +kernel
theorem dX3_init_51 : decode cX3_init 51 = .ok (.bipush 20, 2) := by decide +kernel
theorem dX3_init_53 : decode cX3_init 53 = .ok (.newarray .int, 2) := by decide +kernel
theorem dX3_init_55 : decode cX3_init 55 = .ok (.putfield 31, 3) := by decide +kernel
theorem dX3_init_58 : decode cX3_init 58 = .ok (.aload_n 0, 1) := by decide +kernel
theorem dX3_init_59 : decode cX3_init 59 = .ok (.iconst 0, 1) := by decide +kernel
theorem dX3_init_60 : decode cX3_init 60 = .ok (.putfield 34, 3) := by decide +kernel
theorem dX3_init_63 : decode cX3_init 63 = .ok (.aload_n 0, 1) := by decide +kernel
theorem dX3_init_64 : decode cX3_init 64 = .ok (.iconst 0, 1) := by decide +kernel
theorem dX3_init_65 : decode cX3_init 65 = .ok (.putfield 37, 3) := by decide +kernel
theorem dX3_init_68 : decode cX3_init 68 = .ok (.aload_n 0, 1) := by decide +kernel
theorem dX3_init_69 : decode cX3_init 69 = .ok (.aload_n 1, 1) := by decide +kernel
theorem dX3_init_70 : decode cX3_init 70 = .ok (.putfield 40, 3) := by decide +kernel
theorem dX3_init_73 : decode cX3_init 73 = .ok (.aload_n 0, 1) := by decide +kernel
theorem dX3_init_74 : decode cX3_init 74 = .ok (.aload_n 2, 1) := by decide +kernel
theorem dX3_init_75 : decode cX3_init 75 = .ok (.putfield 44, 3) := by decide +kernel
theorem dX3_init_78 : decode cX3_init 78 = .ok (.aload_n 0, 1) := by decide +kernel
theorem dX3_init_79 : decode cX3_init 79 = .ok (.aload_n 3, 1) := by decide +kernel
theorem dX3_init_80 : decode cX3_init 80 = .ok (.putfield 48, 3) := by decide +kernel
theorem dX3_init_83 : decode cX3_init 83 = .ok (.aload_n 0, 1) := by decide +kernel
theorem dX3_init_84 : decode cX3_init 84 = .ok (.aload 4, 2) := by decide +kernel
theorem dX3_init_86 : decode cX3_init 86 = .ok (.putfield 52, 3) := by decide +kernel
theorem dX3_init_89 : decode cX3_init 89 = .ok (.iconst 0, 1) := by decide +kernel
theorem dX3_init_90 : decode cX3_init 90 = .ok (.istore 5, 2) := by decide +kernel
theorem dX3_init_92 : decode cX3_init 92 = .ok (.iload 5, 2) := by decide +kernel
theorem dX3_init_94 : decode cX3_init 94 = .ok (.bipush 20, 2) := by decide +kernel
theorem dX3_init_96 : decode cX3_init 96 = .ok (.if_icmp .ge 17, 3) := by decide +kernel
theorem dX3_init_99 : decode cX3_init 99 = .ok (.aload_n 0, 1) := by decide +kernel
theorem dX3_init_100 : decode cX3_init 100 = .ok (.getfield 31, 3) := by decide +kernel
theorem dX3_init_103 : decode cX3_init 103 = .ok (.iload 5, 2) := by decide +kernel
theorem dX3_init_105 : decode cX3_init 105 = .ok (.iconst (-1), 1) := by decide +kernel
theorem dX3_init_106 : decode cX3_init 106 = .ok (.iastore, 1) := by decide +kernel
theorem dX3_init_107 : decode cX3_init 107 = .ok (.iinc 5 1, 3) := by decide +kernel
theorem dX3_init_110 : decode cX3_init 110 = .ok (.goto (-18), 3) := by decide +kernel
theorem dX3_init_113 : decode cX3_init 113 = .ok (.return_, 1) := by decide +kernel
def g_X3_init : Nat → EA := (t_n 59 (t_n 28 (t_n 13 (t_n 5 (t_n 1 (t_l 0 (a_aload 1 0)) (t_n 4 (t_l 1 a_objI) (t_l 4 (a_aload 1 0)))) (t_n 9 (t_n 7 (t_l 5 (a_push 2 (.int 24))) (t_l 7 (a_newa 0))) (t_n 12 (t_l 9 (a_putf 9 3 4)) (t_l 12 (a_aload 1 0))))) (t_n 20 (t_n 17 (t_n 14 (t_l 13 (a_push 1 (.int 0))) (t_l 14 (a_putf 0 3 5))) (t_n 18 (t_l 17 (a_aload 1 0)) (t_l 18 (a_push 2 (.int 24))))) (t_n 25 (t_n 22 (t_l 20 (a_newa 0)) (t_l 22 (a_putf 9 3 6))) (t_n 26 (t_l 25 (a_aload 1 0)) (t_l 26 (a_push 2 (.int 24))))))) (t_n 42 (t_n 34 (t_n 30 (t_l 28 (a_newa 0)) (t_n 33 (t_l 30 (a_putf 9 3 7)) (t_l 33 (a_aload 1 0)))) (t_n 38 (t_n 36 (t_l 34 (a_push 2 (.int 24))) (t_l 36 (a_newa 0))) (t_n 41 (t_l 38 (a_putf 9 3 8)) (t_l 41 (a_aload 1 0))))) (t_n 51 (t_n 47 (t_n 45 (t_l 42 (a_push 3 (.int 192))) (t_l 45 (a_newa 0))) (t_n 50 (t_l 47 (a_putf 9 3 9)) (t_l 50 (a_aload 1 0)))) (t_n 55 (t_n 53 (t_l 51 (a_push 2 (.int 20))) (t_l 53 (a_newa 0))) (t_n 58 (t_l 55 (a_putf 9 3 10)) (t_l 58 (a_aload 1 0))))))) (t_n 84 (t_n 70 (t_n 64 (t_n 60 (t_l 59 (a_push 1 (.int 0))) (t_n 63 (t_l 60 (a_putf 0 3 11)) (t_l 63 (a_aload 1 0)))) (t_n 68 (t_n 65 (t_l 64 (a_push 1 (.int 0))) (t_l 65 (a_putf 0 3 12))) (t_n 69 (t_l 68 (a_aload 1 0)) (t_l 69 (a_aload 1 1))))) (t_n 78 (t_n 74 (t_n 73 (t_l 70 (a_putf 9 3 0)) (t_l 73 (a_aload 1 0))) (t_n 75 (t_l 74 (a_aload 1 2)) (t_l 75 (a_putf 9 3 1)))) (t_n 80 (t_n 79 (t_l 78 (a_aload 1 0)) (t_l 79 (a_aload 1 3))) (t_n 83 (t_l 80 (a_putf 9 3 2)) (t_l 83 (a_aload 1 0)))))) (t_n 99 (t_n 90 (t_n 86 (t_l 84 (a_aload 2 4)) (t_n 89 (t_l 86 (a_putf 9 3 3)) (t_l 89 (a_push 1 (.int 0))))) (t_n 94 (t_n 92 (t_l 90 (a_istore 6 2 5)) (t_l 92 (a_iload 2 5))) (t_n 96 (t_l 94 (a_push 2 (.int 20))) (t_l 96 (a_ic 113 (fun x y => decide (y ≤ x))))))) (t_n 106 (t_n 103 (t_n 100 (t_l 99 (a_aload 1 0)) (t_l 100 (a_getf 3 10))) (t_n 105 (t_l 103 (a_iload 2 5)) (t_l 105 (a_push 1 (.int (-1)))))) (t_n 110 (t_n 107 (t_l 106 (a_ist 0)) (t_l 107 (a_iinc 6 5 1))) (t_n 113 (t_l 110 (a_goto 92)) (t_l 113 a_vret)))))))
set_option maxRecDepth 100000 in
theorem k_X3_init (sc : Nat × (Nat → Int32)) (d : Nat) : ∀ pc, ev_Ok cX3_init 6 [] RX3 lw_g lw_n (lw_q sc) vwCl true (ev_CO mt lw_g lw_n (lw_q sc) vwCl d) pc (g_X3_init pc) := (ok_t_n (ok_t_n (ok_t_n (ok_t_n (ok_t_n (ok_t_l (ok_aload_n dX3_init_0 rfl)) (ok_t_n (ok_t_l (ok_objinit dX3_init_1 w_1229 w_94 w_obj ev_CO.small)) (ok_t_l (ok_aload_n dX3_init_4 rfl)))) (ok_t_n (ok_t_n (ok_t_l (ok_bipush dX3_init_5 rfl)) (ok_t_l (ok_newint dX3_init_7 w_614))) (ok_t_n (ok_t_l (ok_putfieldF dX3_init_9 (ci := 3) (kf := 4) rfl inGX3 (by decide) tyX3_ok nmX3 rfl w_1234 rfl rfl rfl)) (ok_t_l (ok_aload_n dX3_init_12 rfl))))) (ok_t_n (ok_t_n (ok_t_n (ok_t_l (ok_iconst dX3_init_13 rfl)) (ok_t_l (ok_putfield dX3_init_14 (ci := 3) (kf := 5) rfl inGX3 (by decide) tyX3_ok nmX3 rfl w_1235 rfl))) (ok_t_n (ok_t_l (ok_aload_n dX3_init_17 rfl)) (ok_t_l (ok_bipush dX3_init_18 rfl)))) (ok_t_n (ok_t_n (ok_t_l (ok_newint dX3_init_20 w_614)) (ok_t_l (ok_putfieldF dX3_init_22 (ci := 3) (kf := 6) rfl inGX3 (by decide) tyX3_ok nmX3 rfl w_1236 rfl rfl rfl))) (ok_t_n (ok_t_l (ok_aload_n dX3_init_25 rfl)) (ok_t_l (ok_bipush dX3_init_26 rfl)))))) (ok_t_n (ok_t_n (ok_t_n (ok_t_l (ok_newint dX3_init_28 w_614)) (ok_t_n (ok_t_l (ok_putfieldF dX3_init_30 (ci := 3) (kf := 7) rfl inGX3 (by decide) tyX3_ok nmX3 rfl w_1237 rfl rfl rfl)) (ok_t_l (ok_aload_n dX3_init_33 rfl)))) (ok_t_n (ok_t_n (ok_t_l (ok_bipush dX3_init_34 rfl)) (ok_t_l (ok_newint dX3_init_36 w_614))) (ok_t_n (ok_t_l (ok_putfieldF dX3_init_38 (ci := 3) (kf := 8) rfl inGX3 (by decide) tyX3_ok nmX3 rfl w_1238 rfl rfl rfl)) (ok_t_l (ok_aload_n dX3_init_41 rfl))))) (ok_t_n (ok_t_n (ok_t_n (ok_t_l (ok_sipush dX3_init_42 rfl)) (ok_t_l (ok_newint dX3_init_45 w_614))) (ok_t_n (ok_t_l (ok_putfieldF dX3_init_47 (ci := 3) (kf := 9) rfl inGX3 (by decide) tyX3_ok nmX3 rfl w_1239 rfl rfl rfl)) (ok_t_l (ok_aload_n dX3_init_50 rfl)))) (ok_t_n (ok_t_n (ok_t_l (ok_bipush dX3_init_51 rfl)) (ok_t_l (ok_newint dX3_init_53 w_614))) (ok_t_n (ok_t_l (ok_putfieldF dX3_init_55 (ci := 3) (kf := 10) rfl inGX3 (by decide) tyX3_ok nmX3 rfl w_1240 rfl rfl rfl)) (ok_t_l (ok_aload_n dX3_init_58 rfl))))))) (ok_t_n (ok_t_n (ok_t_n (ok_t_n (ok_t_l (ok_iconst dX3_init_59 rfl)) (ok_t_n (ok_t_l (ok_putfield dX3_init_60 (ci := 3) (kf := 11) rfl inGX3 (by decide) tyX3_ok nmX3 rfl w_1241 rfl)) (ok_t_l (ok_aload_n dX3_init_63 rfl)))) (ok_t_n (ok_t_n (ok_t_l (ok_iconst dX3_init_64 rfl)) (ok_t_l (ok_putfield dX3_init_65 (ci := 3) (kf := 12) rfl inGX3 (by decide) tyX3_ok nmX3 rfl w_1242 rfl))) (ok_t_n (ok_t_l (ok_aload_n dX3_init_68 rfl)) (ok_t_l (ok_aload_n dX3_init_69 rfl))))) (ok_t_n (ok_t_n (ok_t_n (ok_t_l (ok_putfieldF dX3_init_70 (ci := 3) (kf := 0) rfl inGX3 (by decide) tyX3_ok nmX3 rfl w_1230 rfl rfl rfl)) (ok_t_l (ok_aload_n dX3_init_73 rfl))) (ok_t_n (ok_t_l (ok_aload_n dX3_init_74 rfl)) (ok_t_l (ok_putfieldF dX3_init_75 (ci := 3) (kf := 1) rfl inGX3 (by decide) tyX3_ok nmX3 rfl w_1231 rfl rfl rfl)))) (ok_t_n (ok_t_n (ok_t_l (ok_aload_n dX3_init_78 rfl)) (ok_t_l (ok_aload_n dX3_init_79 rfl))) (ok_t_n (ok_t_l (ok_putfieldF dX3_init_80 (ci := 3) (kf := 2) rfl inGX3 (by decide) tyX3_ok nmX3 rfl w_1232 rfl rfl rfl)) (ok_t_l (ok_aload_n dX3_init_83 rfl)))))) (ok_t_n (ok_t_n (ok_t_n (ok_t_l (ok_aload dX3_init_84)) (ok_t_n (ok_t_l (ok_putfieldF dX3_init_86 (ci := 3) (kf := 3) rfl inGX3 (by decide) tyX3_ok nmX3 rfl w_1233 rfl rfl rfl)) (ok_t_l (ok_iconst dX3_init_89 rfl)))) (ok_t_n (ok_t_n (ok_t_l (ok_istore dX3_init_90)) (ok_t_l (ok_iload dX3_init_92))) (ok_t_n (ok_t_l (ok_bipush dX3_init_94 rfl)) (ok_t_l (ok_icmp_ge dX3_init_96 rfl))))) (ok_t_n (ok_t_n (ok_t_n (ok_t_l (ok_aload_n dX3_init_99 rfl)) (ok_t_l (ok_getfield dX3_init_100 (ci := 3) (kf := 10) rfl inGX3 (by decide) w_1240))) (ok_t_n (ok_t_l (ok_iload dX3_init_103)) (ok_t_l (ok_iconst dX3_init_105 rfl)))) (ok_t_n (ok_t_n (ok_t_l (ok_iastore dX3_init_106)) (ok_t_l (ok_iinc dX3_init_107 rfl))) (ok_t_n (ok_t_l (ok_goto dX3_init_110 rfl)) (ok_t_l (ok_vreturn dX3_init_113))))))))
theorem dX3_size_0 : decode cX3_size 0 = .ok (.aload_n 0, 1) := by decide +kernel
theorem dX3_size_1 : decode cX3_size 1 = .ok (.getfield 34, 3) := by decide +kernel
theorem dX3_size_4 : decode cX3_size 4 = .ok (.ireturn, 1) := by decide +kernel
def g_X3_size : Nat → EA := (t_n 1 (t_l 0 (a_aload 1 0)) (t_n 4 (t_l 1 (a_getf 3 11)) (t_l 4 a_iret)))
set_option maxRecDepth 100000 in
theorem k_X3_size (sc : Nat × (Nat → Int32)) (d : Nat) : ∀ pc, ev_Ok cX3_size 1 [] RX3 lw_g lw_n (lw_q sc) vwCl false (ev_CO mt lw_g lw_n (lw_q sc) vwCl d) pc (g_X3_size pc) := (ok_t_n (ok_t_l (ok_aload_n dX3_size_0 rfl)) (ok_t_n (ok_t_l (ok_getfield dX3_size_1 (ci := 3) (kf := 11) rfl inGX3 (by decide) w_1241)) (ok_t_l (ok_ireturn dX3_size_4))))
theorem dX3_laid_0 : decode cX3_laid 0 = .ok (.aload_n 0, 1) := by decide +kernel
theorem dX3_laid_1 : decode cX3_laid 1 = .ok (.getfield 15, 3) := by decide +kernel
theorem dX3_laid_4 : decode cX3_laid 4 = .ok (.ireturn, 1) := by decide +kernel
def g_X3_laid : Nat → EA := (t_n 1 (t_l 0 (a_aload 1 0)) (t_n 4 (t_l 1 (a_getf 3 5)) (t_l 4 a_iret)))
set_option maxRecDepth 100000 in
theorem k_X3_laid (sc : Nat × (Nat → Int32)) (d : Nat) : ∀ pc, ev_Ok cX3_laid 1 [] RX3 lw_g lw_n (lw_q sc) vwCl false (ev_CO mt lw_g lw_n (lw_q sc) vwCl d) pc (g_X3_laid pc) := (ok_t_n (ok_t_l (ok_aload_n dX3_laid_0 rfl)) (ok_t_n (ok_t_l (ok_getfield dX3_laid_1 (ci := 3) (kf := 5) rfl inGX3 (by decide) w_1235)) (ok_t_l (ok_ireturn dX3_laid_4))))
theorem dX3_sectionAt_0 : decode cX3_sectionAt 0 = .ok (.iload_n 1, 1) := by decide +kernel
theorem dX3_sectionAt_1 : decode cX3_sectionAt 1 = .ok (.ifCond .lt 26, 3) := by decide +kernel
theorem dX3_sectionAt_4 : decode cX3_sectionAt 4 = .ok (.iload_n 1, 1) := by decide +kernel
theorem dX3_sectionAt_5 : decode cX3_sectionAt 5 = .ok (.aload_n 0, 1) := by decide +kernel
theorem dX3_sectionAt_6 : decode cX3_sectionAt 6 = .ok (.getfield 15, 3) := by decide +kernel
theorem dX3_sectionAt_9 : decode cX3_sectionAt 9 = .ok (.if_icmp .ge 18, 3) := by decide +kernel
theorem dX3_sectionAt_12 : decode cX3_sectionAt 12 = .ok (.iload_n 1, 1) := by decide +kernel
theorem dX3_sectionAt_13 : decode cX3_sectionAt 13 = .ok (.bipush 24, 2) := by decide +kernel
theorem dX3_sectionAt_15 : decode cX3_sectionAt 15 = .ok (.if_icmp .ge 12, 3) := by decide +kernel
theorem dX3_sectionAt_18 : decode cX3_sectionAt 18 = .ok (.aload_n 0, 1) := by decide +kernel
theorem dX3_sectionAt_19 : decode cX3_sectionAt 19 = .ok (.getfield 9, 3) := by decide +kernel
theorem dX3_sectionAt_22 : decode cX3_sectionAt 22 = .ok (.iload_n 1, 1) := by decide +kernel
theorem dX3_sectionAt_23 : decode cX3_sectionAt 23 = .ok (.iaload, 1) := by decide +kernel
theorem dX3_sectionAt_24 : decode cX3_sectionAt 24 = .ok (.goto 4, 3) := by decide +kernel
theorem dX3_sectionAt_27 : decode cX3_sectionAt 27 = .ok (.iconst (-1), 1) := by decide +kernel
theorem dX3_sectionAt_28 : decode cX3_sectionAt 28 = .ok (.ireturn, 1) := by decide +kernel
def g_X3_sectionAt : Nat → EA := (t_n 15 (t_n 6 (t_n 4 (t_n 1 (t_l 0 (a_iload 1 1)) (t_l 1 (a_if 27 (fun x => decide (x < 0))))) (t_n 5 (t_l 4 (a_iload 1 1)) (t_l 5 (a_aload 1 0)))) (t_n 12 (t_n 9 (t_l 6 (a_getf 3 5)) (t_l 9 (a_ic 27 (fun x y => decide (y ≤ x))))) (t_n 13 (t_l 12 (a_iload 1 1)) (t_l 13 (a_push 2 (.int 24)))))) (t_n 23 (t_n 19 (t_n 18 (t_l 15 (a_ic 27 (fun x y => decide (y ≤ x)))) (t_l 18 (a_aload 1 0))) (t_n 22 (t_l 19 (a_getf 3 4)) (t_l 22 (a_iload 1 1)))) (t_n 27 (t_n 24 (t_l 23 (a_ild 0)) (t_l 24 (a_goto 28))) (t_n 28 (t_l 27 (a_push 1 (.int (-1)))) (t_l 28 a_iret)))))
set_option maxRecDepth 100000 in
theorem k_X3_sectionAt (sc : Nat × (Nat → Int32)) (d : Nat) : ∀ pc, ev_Ok cX3_sectionAt 2 [] RX3 lw_g lw_n (lw_q sc) vwCl false (ev_CO mt lw_g lw_n (lw_q sc) vwCl d) pc (g_X3_sectionAt pc) := (ok_t_n (ok_t_n (ok_t_n (ok_t_n (ok_t_l (ok_iload_n dX3_sectionAt_0 rfl)) (ok_t_l (ok_if_lt dX3_sectionAt_1 rfl))) (ok_t_n (ok_t_l (ok_iload_n dX3_sectionAt_4 rfl)) (ok_t_l (ok_aload_n dX3_sectionAt_5 rfl)))) (ok_t_n (ok_t_n (ok_t_l (ok_getfield dX3_sectionAt_6 (ci := 3) (kf := 5) rfl inGX3 (by decide) w_1235)) (ok_t_l (ok_icmp_ge dX3_sectionAt_9 rfl))) (ok_t_n (ok_t_l (ok_iload_n dX3_sectionAt_12 rfl)) (ok_t_l (ok_bipush dX3_sectionAt_13 rfl))))) (ok_t_n (ok_t_n (ok_t_n (ok_t_l (ok_icmp_ge dX3_sectionAt_15 rfl)) (ok_t_l (ok_aload_n dX3_sectionAt_18 rfl))) (ok_t_n (ok_t_l (ok_getfield dX3_sectionAt_19 (ci := 3) (kf := 4) rfl inGX3 (by decide) w_1234)) (ok_t_l (ok_iload_n dX3_sectionAt_22 rfl)))) (ok_t_n (ok_t_n (ok_t_l (ok_iaload dX3_sectionAt_23)) (ok_t_l (ok_goto dX3_sectionAt_24 rfl))) (ok_t_n (ok_t_l (ok_iconst dX3_sectionAt_27 rfl)) (ok_t_l (ok_ireturn dX3_sectionAt_28))))))
theorem dX3_addressOf_0 : decode cX3_addressOf 0 = .ok (.aload_n 0, 1) := by decide +kernel
theorem dX3_addressOf_1 : decode cX3_addressOf 1 = .ok (.getfield 52, 3) := by decide +kernel
theorem dX3_addressOf_4 : decode cX3_addressOf 4 = .ok (.iload_n 1, 1) := by decide +kernel
theorem dX3_addressOf_5 : decode cX3_addressOf 5 = .ok (.invokevirtual 56, 3) := by decide +kernel
theorem dX3_addressOf_8 : decode cX3_addressOf 8 = .ok (.ifCond .eq 21, 3) := by decide +kernel
theorem dX3_addressOf_11 : decode cX3_addressOf 11 = .ok (.iload_n 1, 1) := by decide +kernel
theorem dX3_addressOf_12 : decode cX3_addressOf 12 = .ok (.bipush 24, 2) := by decide +kernel
theorem dX3_addressOf_14 : decode cX3_addressOf 14 = .ok (.invokestatic 62, 3) := by decide +kernel
theorem dX3_addressOf_17 : decode cX3_addressOf 17 = .ok (.ifCond .eq 12, 3) := by decide +kernel
theorem dX3_addressOf_20 : decode cX3_addressOf 20 = .ok (.aload_n 0, 1) := by decide +kernel
theorem dX3_addressOf_21 : decode cX3_addressOf 21 = .ok (.getfield 19, 3) := by decide +kernel
theorem dX3_addressOf_24 : decode cX3_addressOf 24 = .ok (.iload_n 1, 1) := by decide +kernel
theorem dX3_addressOf_25 : decode cX3_addressOf 25 = .ok (.iaload, 1) := by decide +kernel
theorem dX3_addressOf_26 : decode cX3_addressOf 26 = .ok (.goto 4, 3) := by decide +kernel
theorem dX3_addressOf_29 : decode cX3_addressOf 29 = .ok (.iconst (-1), 1) := by decide +kernel
theorem dX3_addressOf_30 : decode cX3_addressOf 30 = .ok (.ireturn, 1) := by decide +kernel
def g_X3_addressOf : Nat → EA := (t_n 17 (t_n 8 (t_n 4 (t_n 1 (t_l 0 (a_aload 1 0)) (t_l 1 (a_getf 3 3))) (t_n 5 (t_l 4 (a_iload 1 1)) (t_l 5 (a_inv true 105 2 (some 7))))) (t_n 12 (t_n 11 (t_l 8 (a_if 29 (fun x => decide (x = 0)))) (t_l 11 (a_iload 1 1))) (t_n 14 (t_l 12 (a_push 2 (.int 24))) (t_l 14 (a_inv false 192 2 none))))) (t_n 25 (t_n 21 (t_n 20 (t_l 17 (a_if 29 (fun x => decide (x = 0)))) (t_l 20 (a_aload 1 0))) (t_n 24 (t_l 21 (a_getf 3 6)) (t_l 24 (a_iload 1 1)))) (t_n 29 (t_n 26 (t_l 25 (a_ild 0)) (t_l 26 (a_goto 30))) (t_n 30 (t_l 29 (a_push 1 (.int (-1)))) (t_l 30 a_iret)))))
set_option maxRecDepth 100000 in
theorem k_X3_addressOf (sc : Nat × (Nat → Int32)) (d : Nat) : ∀ pc, ev_Ok cX3_addressOf 2 [] RX3 lw_g lw_n (lw_q sc) vwCl false (ev_CO mt lw_g lw_n (lw_q sc) vwCl d) pc (g_X3_addressOf pc) := (ok_t_n (ok_t_n (ok_t_n (ok_t_n (ok_t_l (ok_aload_n dX3_addressOf_0 rfl)) (ok_t_l (ok_getfield dX3_addressOf_1 (ci := 3) (kf := 3) rfl inGX3 (by decide) w_1233))) (ok_t_n (ok_t_l (ok_iload_n dX3_addressOf_4 rfl)) (ok_t_l (ok_inv (run_V (y := 105) (n := 1) (ci := 7) dX3_addressOf_5 cz_105 gdG cc_105 ci_105 w_461 cm_105 cs_105 cd_105 cl_105 rfl rfl))))) (ok_t_n (ok_t_n (ok_t_l (ok_if_eq dX3_addressOf_8 rfl)) (ok_t_l (ok_iload_n dX3_addressOf_11 rfl))) (ok_t_n (ok_t_l (ok_bipush dX3_addressOf_12 rfl)) (ok_t_l (ok_inv (run_SN (y := 192) (n := 2) dX3_addressOf_14 cz_192 gdG cc_192 ci_192 nst_10 cm_192 cd_192 cl_192)))))) (ok_t_n (ok_t_n (ok_t_n (ok_t_l (ok_if_eq dX3_addressOf_17 rfl)) (ok_t_l (ok_aload_n dX3_addressOf_20 rfl))) (ok_t_n (ok_t_l (ok_getfield dX3_addressOf_21 (ci := 3) (kf := 6) rfl inGX3 (by decide) w_1236)) (ok_t_l (ok_iload_n dX3_addressOf_24 rfl)))) (ok_t_n (ok_t_n (ok_t_l (ok_iaload dX3_addressOf_25)) (ok_t_l (ok_goto dX3_addressOf_26 rfl))) (ok_t_n (ok_t_l (ok_iconst dX3_addressOf_29 rfl)) (ok_t_l (ok_ireturn dX3_addressOf_30))))))
theorem dX3_wordsOf_0 : decode cX3_wordsOf 0 = .ok (.aload_n 0, 1) := by decide +kernel
theorem dX3_wordsOf_1 : decode cX3_wordsOf 1 = .ok (.getfield 52, 3) := by decide +kernel
theorem dX3_wordsOf_4 : decode cX3_wordsOf 4 = .ok (.iload_n 1, 1) := by decide +kernel
theorem dX3_wordsOf_5 : decode cX3_wordsOf 5 = .ok (.invokevirtual 56, 3) := by decide +kernel
theorem dX3_wordsOf_8 : decode cX3_wordsOf 8 = .ok (.ifCond .eq 21, 3) := by decide +kernel
theorem dX3_wordsOf_11 : decode cX3_wordsOf 11 = .ok (.iload_n 1, 1) := by decide +kernel
theorem dX3_wordsOf_12 : decode cX3_wordsOf 12 = .ok (.bipush 24, 2) := by decide +kernel
theorem dX3_wordsOf_14 : decode cX3_wordsOf 14 = .ok (.invokestatic 62, 3) := by decide +kernel
theorem dX3_wordsOf_17 : decode cX3_wordsOf 17 = .ok (.ifCond .eq 12, 3) := by decide +kernel
theorem dX3_wordsOf_20 : decode cX3_wordsOf 20 = .ok (.aload_n 0, 1) := by decide +kernel
theorem dX3_wordsOf_21 : decode cX3_wordsOf 21 = .ok (.getfield 22, 3) := by decide +kernel
theorem dX3_wordsOf_24 : decode cX3_wordsOf 24 = .ok (.iload_n 1, 1) := by decide +kernel
theorem dX3_wordsOf_25 : decode cX3_wordsOf 25 = .ok (.iaload, 1) := by decide +kernel
theorem dX3_wordsOf_26 : decode cX3_wordsOf 26 = .ok (.goto 4, 3) := by decide +kernel
theorem dX3_wordsOf_29 : decode cX3_wordsOf 29 = .ok (.iconst 0, 1) := by decide +kernel
theorem dX3_wordsOf_30 : decode cX3_wordsOf 30 = .ok (.ireturn, 1) := by decide +kernel
def g_X3_wordsOf : Nat → EA := (t_n 17 (t_n 8 (t_n 4 (t_n 1 (t_l 0 (a_aload 1 0)) (t_l 1 (a_getf 3 3))) (t_n 5 (t_l 4 (a_iload 1 1)) (t_l 5 (a_inv true 105 2 (some 7))))) (t_n 12 (t_n 11 (t_l 8 (a_if 29 (fun x => decide (x = 0)))) (t_l 11 (a_iload 1 1))) (t_n 14 (t_l 12 (a_push 2 (.int 24))) (t_l 14 (a_inv false 192 2 none))))) (t_n 25 (t_n 21 (t_n 20 (t_l 17 (a_if 29 (fun x => decide (x = 0)))) (t_l 20 (a_aload 1 0))) (t_n 24 (t_l 21 (a_getf 3 7)) (t_l 24 (a_iload 1 1)))) (t_n 29 (t_n 26 (t_l 25 (a_ild 0)) (t_l 26 (a_goto 30))) (t_n 30 (t_l 29 (a_push 1 (.int 0))) (t_l 30 a_iret)))))
set_option maxRecDepth 100000 in
theorem k_X3_wordsOf (sc : Nat × (Nat → Int32)) (d : Nat) : ∀ pc, ev_Ok cX3_wordsOf 2 [] RX3 lw_g lw_n (lw_q sc) vwCl false (ev_CO mt lw_g lw_n (lw_q sc) vwCl d) pc (g_X3_wordsOf pc) := (ok_t_n (ok_t_n (ok_t_n (ok_t_n (ok_t_l (ok_aload_n dX3_wordsOf_0 rfl)) (ok_t_l (ok_getfield dX3_wordsOf_1 (ci := 3) (kf := 3) rfl inGX3 (by decide) w_1233))) (ok_t_n (ok_t_l (ok_iload_n dX3_wordsOf_4 rfl)) (ok_t_l (ok_inv (run_V (y := 105) (n := 1) (ci := 7) dX3_wordsOf_5 cz_105 gdG cc_105 ci_105 w_461 cm_105 cs_105 cd_105 cl_105 rfl rfl))))) (ok_t_n (ok_t_n (ok_t_l (ok_if_eq dX3_wordsOf_8 rfl)) (ok_t_l (ok_iload_n dX3_wordsOf_11 rfl))) (ok_t_n (ok_t_l (ok_bipush dX3_wordsOf_12 rfl)) (ok_t_l (ok_inv (run_SN (y := 192) (n := 2) dX3_wordsOf_14 cz_192 gdG cc_192 ci_192 nst_10 cm_192 cd_192 cl_192)))))) (ok_t_n (ok_t_n (ok_t_n (ok_t_l (ok_if_eq dX3_wordsOf_17 rfl)) (ok_t_l (ok_aload_n dX3_wordsOf_20 rfl))) (ok_t_n (ok_t_l (ok_getfield dX3_wordsOf_21 (ci := 3) (kf := 7) rfl inGX3 (by decide) w_1237)) (ok_t_l (ok_iload_n dX3_wordsOf_24 rfl)))) (ok_t_n (ok_t_n (ok_t_l (ok_iaload dX3_wordsOf_25)) (ok_t_l (ok_goto dX3_wordsOf_26 rfl))) (ok_t_n (ok_t_l (ok_iconst dX3_wordsOf_29 rfl)) (ok_t_l (ok_ireturn dX3_wordsOf_30))))))
theorem dX3_longsOf_0 : decode cX3_longsOf 0 = .ok (.aload_n 0, 1) := by decide +kernel
theorem dX3_longsOf_1 : decode cX3_longsOf 1 = .ok (.getfield 52, 3) := by decide +kernel
theorem dX3_longsOf_4 : decode cX3_longsOf 4 = .ok (.iload_n 1, 1) := by decide +kernel
theorem dX3_longsOf_5 : decode cX3_longsOf 5 = .ok (.invokevirtual 56, 3) := by decide +kernel
theorem dX3_longsOf_8 : decode cX3_longsOf 8 = .ok (.ifCond .eq 21, 3) := by decide +kernel
theorem dX3_longsOf_11 : decode cX3_longsOf 11 = .ok (.iload_n 1, 1) := by decide +kernel
theorem dX3_longsOf_12 : decode cX3_longsOf 12 = .ok (.bipush 24, 2) := by decide +kernel
theorem dX3_longsOf_14 : decode cX3_longsOf 14 = .ok (.invokestatic 62, 3) := by decide +kernel
theorem dX3_longsOf_17 : decode cX3_longsOf 17 = .ok (.ifCond .eq 12, 3) := by decide +kernel
theorem dX3_longsOf_20 : decode cX3_longsOf 20 = .ok (.aload_n 0, 1) := by decide +kernel
theorem dX3_longsOf_21 : decode cX3_longsOf 21 = .ok (.getfield 25, 3) := by decide +kernel
theorem dX3_longsOf_24 : decode cX3_longsOf 24 = .ok (.iload_n 1, 1) := by decide +kernel
theorem dX3_longsOf_25 : decode cX3_longsOf 25 = .ok (.iaload, 1) := by decide +kernel
theorem dX3_longsOf_26 : decode cX3_longsOf 26 = .ok (.goto 4, 3) := by decide +kernel
theorem dX3_longsOf_29 : decode cX3_longsOf 29 = .ok (.iconst 0, 1) := by decide +kernel
theorem dX3_longsOf_30 : decode cX3_longsOf 30 = .ok (.ireturn, 1) := by decide +kernel
def g_X3_longsOf : Nat → EA := (t_n 17 (t_n 8 (t_n 4 (t_n 1 (t_l 0 (a_aload 1 0)) (t_l 1 (a_getf 3 3))) (t_n 5 (t_l 4 (a_iload 1 1)) (t_l 5 (a_inv true 105 2 (some 7))))) (t_n 12 (t_n 11 (t_l 8 (a_if 29 (fun x => decide (x = 0)))) (t_l 11 (a_iload 1 1))) (t_n 14 (t_l 12 (a_push 2 (.int 24))) (t_l 14 (a_inv false 192 2 none))))) (t_n 25 (t_n 21 (t_n 20 (t_l 17 (a_if 29 (fun x => decide (x = 0)))) (t_l 20 (a_aload 1 0))) (t_n 24 (t_l 21 (a_getf 3 8)) (t_l 24 (a_iload 1 1)))) (t_n 29 (t_n 26 (t_l 25 (a_ild 0)) (t_l 26 (a_goto 30))) (t_n 30 (t_l 29 (a_push 1 (.int 0))) (t_l 30 a_iret)))))
set_option maxRecDepth 100000 in
theorem k_X3_longsOf (sc : Nat × (Nat → Int32)) (d : Nat) : ∀ pc, ev_Ok cX3_longsOf 2 [] RX3 lw_g lw_n (lw_q sc) vwCl false (ev_CO mt lw_g lw_n (lw_q sc) vwCl d) pc (g_X3_longsOf pc) := (ok_t_n (ok_t_n (ok_t_n (ok_t_n (ok_t_l (ok_aload_n dX3_longsOf_0 rfl)) (ok_t_l (ok_getfield dX3_longsOf_1 (ci := 3) (kf := 3) rfl inGX3 (by decide) w_1233))) (ok_t_n (ok_t_l (ok_iload_n dX3_longsOf_4 rfl)) (ok_t_l (ok_inv (run_V (y := 105) (n := 1) (ci := 7) dX3_longsOf_5 cz_105 gdG cc_105 ci_105 w_461 cm_105 cs_105 cd_105 cl_105 rfl rfl))))) (ok_t_n (ok_t_n (ok_t_l (ok_if_eq dX3_longsOf_8 rfl)) (ok_t_l (ok_iload_n dX3_longsOf_11 rfl))) (ok_t_n (ok_t_l (ok_bipush dX3_longsOf_12 rfl)) (ok_t_l (ok_inv (run_SN (y := 192) (n := 2) dX3_longsOf_14 cz_192 gdG cc_192 ci_192 nst_10 cm_192 cd_192 cl_192)))))) (ok_t_n (ok_t_n (ok_t_n (ok_t_l (ok_if_eq dX3_longsOf_17 rfl)) (ok_t_l (ok_aload_n dX3_longsOf_20 rfl))) (ok_t_n (ok_t_l (ok_getfield dX3_longsOf_21 (ci := 3) (kf := 8) rfl inGX3 (by decide) w_1238)) (ok_t_l (ok_iload_n dX3_longsOf_24 rfl)))) (ok_t_n (ok_t_n (ok_t_l (ok_iaload dX3_longsOf_25)) (ok_t_l (ok_goto dX3_longsOf_26 rfl))) (ok_t_n (ok_t_l (ok_iconst dX3_longsOf_29 rfl)) (ok_t_l (ok_ireturn dX3_longsOf_30))))))
theorem dX3_countLongs_0 : decode cX3_countLongs 0 = .ok (.iconst 0, 1) := by decide +kernel
theorem dX3_countLongs_1 : decode cX3_countLongs 1 = .ok (.istore_n 1, 1) := by decide +kernel
theorem dX3_countLongs_2 : decode cX3_countLongs 2 = .ok (.iconst 0, 1) := by decide +kernel
theorem dX3_countLongs_3 : decode cX3_countLongs 3 = .ok (.istore_n 2, 1) := by decide +kernel
theorem dX3_countLongs_4 : decode cX3_countLongs 4 = .ok (.iload_n 2, 1) := by decide +kernel
theorem dX3_countLongs_5 : decode cX3_countLongs 5 = .ok (.bipush 24, 2) := by decide +kernel
theorem dX3_countLongs_7 : decode cX3_countLongs 7 = .ok (.if_icmp .ge 17, 3) := by decide +kernel
theorem dX3_countLongs_10 : decode cX3_countLongs 10 = .ok (.iload_n 1, 1) := by decide +kernel
theorem dX3_countLongs_11 : decode cX3_countLongs 11 = .ok (.aload_n 0, 1) := by decide +kernel
theorem dX3_countLongs_12 : decode cX3_countLongs 12 = .ok (.iload_n 2, 1) := by decide +kernel
theorem dX3_countLongs_13 : decode cX3_countLongs 13 = .ok (.invokevirtual 66, 3) := by decide +kernel
theorem dX3_countLongs_16 : decode cX3_countLongs 16 = .ok (.iadd, 1) := by decide +kernel
theorem dX3_countLongs_17 : decode cX3_countLongs 17 = .ok (.istore_n 1, 1) := by decide +kernel
theorem dX3_countLongs_18 : decode cX3_countLongs 18 = .ok (.iinc 2 1, 3) := by decide +kernel
theorem dX3_countLongs_21 : decode cX3_countLongs 21 = .ok (.goto (-17), 3) := by decide +kernel
theorem dX3_countLongs_24 : decode cX3_countLongs 24 = .ok (.iload_n 1, 1) := by decide +kernel
theorem dX3_countLongs_25 : decode cX3_countLongs 25 = .ok (.ireturn, 1) := by decide +kernel
def g_X3_countLongs : Nat → EA := (t_n 11 (t_n 4 (t_n 2 (t_n 1 (t_l 0 (a_push 1 (.int 0))) (t_l 1 (a_istore 3 1 1))) (t_n 3 (t_l 2 (a_push 1 (.int 0))) (t_l 3 (a_istore 3 1 2)))) (t_n 7 (t_n 5 (t_l 4 (a_iload 1 2)) (t_l 5 (a_push 2 (.int 24)))) (t_n 10 (t_l 7 (a_ic 24 (fun x y => decide (y ≤ x)))) (t_l 10 (a_iload 1 1))))) (t_n 17 (t_n 13 (t_n 12 (t_l 11 (a_aload 1 0)) (t_l 12 (a_iload 1 2))) (t_n 16 (t_l 13 (a_inv true 26 2 (some 3))) (t_l 16 (a_ii 1 (fun x y => x + y))))) (t_n 21 (t_n 18 (t_l 17 (a_istore 3 1 1)) (t_l 18 (a_iinc 3 2 1))) (t_n 24 (t_l 21 (a_goto 4)) (t_n 25 (t_l 24 (a_iload 1 1)) (t_l 25 a_iret))))))
set_option maxRecDepth 100000 in
theorem k_X3_countLongs (sc : Nat × (Nat → Int32)) (d : Nat) : ∀ pc, ev_Ok cX3_countLongs 3 [] RX3 lw_g lw_n (lw_q sc) vwCl false (ev_CO mt lw_g lw_n (lw_q sc) vwCl d) pc (g_X3_countLongs pc) := (ok_t_n (ok_t_n (ok_t_n (ok_t_n (ok_t_l (ok_iconst dX3_countLongs_0 rfl)) (ok_t_l (ok_istore_n dX3_countLongs_1 rfl))) (ok_t_n (ok_t_l (ok_iconst dX3_countLongs_2 rfl)) (ok_t_l (ok_istore_n dX3_countLongs_3 rfl)))) (ok_t_n (ok_t_n (ok_t_l (ok_iload_n dX3_countLongs_4 rfl)) (ok_t_l (ok_bipush dX3_countLongs_5 rfl))) (ok_t_n (ok_t_l (ok_icmp_ge dX3_countLongs_7 rfl)) (ok_t_l (ok_iload_n dX3_countLongs_10 rfl))))) (ok_t_n (ok_t_n (ok_t_n (ok_t_l (ok_aload_n dX3_countLongs_11 rfl)) (ok_t_l (ok_iload_n dX3_countLongs_12 rfl))) (ok_t_n (ok_t_l (ok_inv (run_V (y := 26) (n := 1) (ci := 3) dX3_countLongs_13 cz_26 gdG cc_26 ci_26 w_827 cm_26 cs_26 cd_26 cl_26 rfl rfl))) (ok_t_l (ok_iadd dX3_countLongs_16)))) (ok_t_n (ok_t_n (ok_t_l (ok_istore_n dX3_countLongs_17 rfl)) (ok_t_l (ok_iinc dX3_countLongs_18 rfl))) (ok_t_n (ok_t_l (ok_goto dX3_countLongs_21 rfl)) (ok_t_n (ok_t_l (ok_iload_n dX3_countLongs_24 rfl)) (ok_t_l (ok_ireturn dX3_countLongs_25)))))))
theorem dX3_addressOfName_0 : decode cX3_addressOfName 0 = .ok (.iload_n 1, 1) := by decide +kernel
theorem dX3_addressOfName_1 : decode cX3_addressOfName 1 = .ok (.invokestatic 69, 3) := by decide +kernel
theorem dX3_addressOfName_4 : decode cX3_addressOfName 4 = .ok (.ifCond .eq 12, 3) := by decide +kernel
theorem dX3_addressOfName_7 : decode cX3_addressOfName 7 = .ok (.aload_n 0, 1) := by decide +kernel
theorem dX3_addressOfName_8 : decode cX3_addressOfName 8 = .ok (.getfield 31, 3) := by decide +kernel
theorem dX3_addressOfName_11 : decode cX3_addressOfName 11 = .ok (.iload_n 1, 1) := by decide +kernel
theorem dX3_addressOfName_12 : decode cX3_addressOfName 12 = .ok (.iaload, 1) := by decide +kernel
theorem dX3_addressOfName_13 : decode cX3_addressOfName 13 = .ok (.goto 4, 3) := by decide +kernel
theorem dX3_addressOfName_16 : decode cX3_addressOfName 16 = .ok (.iconst (-1), 1) := by decide +kernel
theorem dX3_addressOfName_17 : decode cX3_addressOfName 17 = .ok (.ireturn, 1) := by decide +kernel
def g_X3_addressOfName : Nat → EA := (t_n 11 (t_n 4 (t_n 1 (t_l 0 (a_iload 1 1)) (t_l 1 (a_inv false 193 1 none))) (t_n 7 (t_l 4 (a_if 16 (fun x => decide (x = 0)))) (t_n 8 (t_l 7 (a_aload 1 0)) (t_l 8 (a_getf 3 10))))) (t_n 13 (t_n 12 (t_l 11 (a_iload 1 1)) (t_l 12 (a_ild 0))) (t_n 16 (t_l 13 (a_goto 17)) (t_n 17 (t_l 16 (a_push 1 (.int (-1)))) (t_l 17 a_iret)))))
set_option maxRecDepth 100000 in
theorem k_X3_addressOfName (sc : Nat × (Nat → Int32)) (d : Nat) : ∀ pc, ev_Ok cX3_addressOfName 2 [] RX3 lw_g lw_n (lw_q sc) vwCl false (ev_CO mt lw_g lw_n (lw_q sc) vwCl d) pc (g_X3_addressOfName pc) := (ok_t_n (ok_t_n (ok_t_n (ok_t_l (ok_iload_n dX3_addressOfName_0 rfl)) (ok_t_l (ok_inv (run_SN (y := 193) (n := 1) dX3_addressOfName_1 cz_193 gdG cc_193 ci_193 nst_12 cm_193 cd_193 cl_193)))) (ok_t_n (ok_t_l (ok_if_eq dX3_addressOfName_4 rfl)) (ok_t_n (ok_t_l (ok_aload_n dX3_addressOfName_7 rfl)) (ok_t_l (ok_getfield dX3_addressOfName_8 (ci := 3) (kf := 10) rfl inGX3 (by decide) w_1240))))) (ok_t_n (ok_t_n (ok_t_l (ok_iload_n dX3_addressOfName_11 rfl)) (ok_t_l (ok_iaload dX3_addressOfName_12))) (ok_t_n (ok_t_l (ok_goto dX3_addressOfName_13 rfl)) (ok_t_n (ok_t_l (ok_iconst dX3_addressOfName_16 rfl)) (ok_t_l (ok_ireturn dX3_addressOfName_17))))))
theorem dX3_standsFor_0 : decode cX3_standsFor 0 = .ok (.iload_n 1, 1) := by decide +kernel
theorem dX3_standsFor_1 : decode cX3_standsFor 1 = .ok (.invokestatic 69, 3) := by decide +kernel
theorem dX3_standsFor_4 : decode cX3_standsFor 4 = .ok (.ifCond .eq 22, 3) := by decide +kernel
theorem dX3_standsFor_7 : decode cX3_standsFor 7 = .ok (.aload_n 0, 1) := by decide +kernel
theorem dX3_standsFor_8 : decode cX3_standsFor 8 = .ok (.getfield 31, 3) := by decide +kernel
theorem dX3_standsFor_11 : decode cX3_standsFor 11 = .ok (.iload_n 1, 1) := by decide +kernel
theorem dX3_standsFor_12 : decode cX3_standsFor 12 = .ok (.iaload, 1) := by decide +kernel
theorem dX3_standsFor_13 : decode cX3_standsFor 13 = .ok (.iconst (-1), 1) := by decide +kernel
theorem dX3_standsFor_14 : decode cX3_standsFor 14 = .ok (.if_icmp .eq 12, 3) := by decide +kernel
theorem dX3_standsFor_17 : decode cX3_standsFor 17 = .ok (.aload_n 0, 1) := by decide +kernel
theorem dX3_standsFor_18 : decode cX3_standsFor 18 = .ok (.getfield 31, 3) := by decide +kernel
theorem dX3_standsFor_21 : decode cX3_standsFor 21 = .ok (.iload_n 1, 1) := by decide +kernel
theorem dX3_standsFor_22 : decode cX3_standsFor 22 = .ok (.iaload, 1) := by decide +kernel
theorem dX3_standsFor_23 : decode cX3_standsFor 23 = .ok (.goto 4, 3) := by decide +kernel
theorem dX3_standsFor_26 : decode cX3_standsFor 26 = .ok (.iconst 0, 1) := by decide +kernel
theorem dX3_standsFor_27 : decode cX3_standsFor 27 = .ok (.ireturn, 1) := by decide +kernel
def g_X3_standsFor : Nat → EA := (t_n 14 (t_n 8 (t_n 4 (t_n 1 (t_l 0 (a_iload 1 1)) (t_l 1 (a_inv false 193 1 none))) (t_n 7 (t_l 4 (a_if 26 (fun x => decide (x = 0)))) (t_l 7 (a_aload 1 0)))) (t_n 12 (t_n 11 (t_l 8 (a_getf 3 10)) (t_l 11 (a_iload 1 1))) (t_n 13 (t_l 12 (a_ild 0)) (t_l 13 (a_push 1 (.int (-1))))))) (t_n 22 (t_n 18 (t_n 17 (t_l 14 (a_ic 26 (fun x y => decide (x = y)))) (t_l 17 (a_aload 1 0))) (t_n 21 (t_l 18 (a_getf 3 10)) (t_l 21 (a_iload 1 1)))) (t_n 26 (t_n 23 (t_l 22 (a_ild 0)) (t_l 23 (a_goto 27))) (t_n 27 (t_l 26 (a_push 1 (.int 0))) (t_l 27 a_iret)))))
set_option maxRecDepth 100000 in
theorem k_X3_standsFor (sc : Nat × (Nat → Int32)) (d : Nat) : ∀ pc, ev_Ok cX3_standsFor 2 [] RX3 lw_g lw_n (lw_q sc) vwCl false (ev_CO mt lw_g lw_n (lw_q sc) vwCl d) pc (g_X3_standsFor pc) := (ok_t_n (ok_t_n (ok_t_n (ok_t_n (ok_t_l (ok_iload_n dX3_standsFor_0 rfl)) (ok_t_l (ok_inv (run_SN (y := 193) (n := 1) dX3_standsFor_1 cz_193 gdG cc_193 ci_193 nst_12 cm_193 cd_193 cl_193)))) (ok_t_n (ok_t_l (ok_if_eq dX3_standsFor_4 rfl)) (ok_t_l (ok_aload_n dX3_standsFor_7 rfl)))) (ok_t_n (ok_t_n (ok_t_l (ok_getfield dX3_standsFor_8 (ci := 3) (kf := 10) rfl inGX3 (by decide) w_1240)) (ok_t_l (ok_iload_n dX3_standsFor_11 rfl))) (ok_t_n (ok_t_l (ok_iaload dX3_standsFor_12)) (ok_t_l (ok_iconst dX3_standsFor_13 rfl))))) (ok_t_n (ok_t_n (ok_t_n (ok_t_l (ok_icmp_eq dX3_standsFor_14 rfl)) (ok_t_l (ok_aload_n dX3_standsFor_17 rfl))) (ok_t_n (ok_t_l (ok_getfield dX3_standsFor_18 (ci := 3) (kf := 10) rfl inGX3 (by decide) w_1240)) (ok_t_l (ok_iload_n dX3_standsFor_21 rfl)))) (ok_t_n (ok_t_n (ok_t_l (ok_iaload dX3_standsFor_22)) (ok_t_l (ok_goto dX3_standsFor_23 rfl))) (ok_t_n (ok_t_l (ok_iconst dX3_standsFor_26 rfl)) (ok_t_l (ok_ireturn dX3_standsFor_27))))))
theorem dX3_width_0 : decode cX3_width 0 = .ok (.iload_n 1, 1) := by decide +kernel
theorem dX3_width_1 : decode cX3_width 1 = .ok (.bipush 24, 2) := by decide +kernel
theorem dX3_width_3 : decode cX3_width 3 = .ok (.invokestatic 62, 3) := by decide +kernel
theorem dX3_width_6 : decode cX3_width 6 = .ok (.ifCond .eq 26, 3) := by decide +kernel
theorem dX3_width_9 : decode cX3_width 9 = .ok (.iload_n 2, 1) := by decide +kernel
theorem dX3_width_10 : decode cX3_width 10 = .ok (.bipush 8, 2) := by decide +kernel
theorem dX3_width_12 : decode cX3_width 12 = .ok (.invokestatic 62, 3) := by decide +kernel
theorem dX3_width_15 : decode cX3_width 15 = .ok (.ifCond .eq 17, 3) := by decide +kernel
theorem dX3_width_18 : decode cX3_width 18 = .ok (.aload_n 0, 1) := by decide +kernel
theorem dX3_width_19 : decode cX3_width 19 = .ok (.getfield 28, 3) := by decide +kernel
theorem dX3_width_22 : decode cX3_width 22 = .ok (.iload_n 1, 1) := by decide +kernel
theorem dX3_width_23 : decode cX3_width 23 = .ok (.bipush 8, 2) := by decide +kernel
theorem dX3_width_25 : decode cX3_width 25 = .ok (.imul, 1) := by decide +kernel
theorem dX3_width_26 : decode cX3_width 26 = .ok (.iload_n 2, 1) := by decide +kernel
theorem dX3_width_27 : decode cX3_width 27 = .ok (.iadd, 1) := by decide +kernel
theorem dX3_width_28 : decode cX3_width 28 = .ok (.iaload, 1) := by decide +kernel
theorem dX3_width_29 : decode cX3_width 29 = .ok (.goto 4, 3) := by decide +kernel
theorem dX3_width_32 : decode cX3_width 32 = .ok (.iconst 0, 1) := by decide +kernel
theorem dX3_width_33 : decode cX3_width 33 = .ok (.ireturn, 1) := by decide +kernel
def g_X3_width : Nat → EA := (t_n 19 (t_n 9 (t_n 3 (t_n 1 (t_l 0 (a_iload 1 1)) (t_l 1 (a_push 2 (.int 24)))) (t_n 6 (t_l 3 (a_inv false 192 2 none)) (t_l 6 (a_if 32 (fun x => decide (x = 0)))))) (t_n 12 (t_n 10 (t_l 9 (a_iload 1 2)) (t_l 10 (a_push 2 (.int 8)))) (t_n 15 (t_l 12 (a_inv false 192 2 none)) (t_n 18 (t_l 15 (a_if 32 (fun x => decide (x = 0)))) (t_l 18 (a_aload 1 0)))))) (t_n 27 (t_n 23 (t_n 22 (t_l 19 (a_getf 3 9)) (t_l 22 (a_iload 1 1))) (t_n 25 (t_l 23 (a_push 2 (.int 8))) (t_n 26 (t_l 25 (a_ii 1 (fun x y => x * y))) (t_l 26 (a_iload 1 2))))) (t_n 29 (t_n 28 (t_l 27 (a_ii 1 (fun x y => x + y))) (t_l 28 (a_ild 0))) (t_n 32 (t_l 29 (a_goto 33)) (t_n 33 (t_l 32 (a_push 1 (.int 0))) (t_l 33 a_iret))))))
set_option maxRecDepth 100000 in
theorem k_X3_width (sc : Nat × (Nat → Int32)) (d : Nat) : ∀ pc, ev_Ok cX3_width 3 [] RX3 lw_g lw_n (lw_q sc) vwCl false (ev_CO mt lw_g lw_n (lw_q sc) vwCl d) pc (g_X3_width pc) := (ok_t_n (ok_t_n (ok_t_n (ok_t_n (ok_t_l (ok_iload_n dX3_width_0 rfl)) (ok_t_l (ok_bipush dX3_width_1 rfl))) (ok_t_n (ok_t_l (ok_inv (run_SN (y := 192) (n := 2) dX3_width_3 cz_192 gdG cc_192 ci_192 nst_10 cm_192 cd_192 cl_192))) (ok_t_l (ok_if_eq dX3_width_6 rfl)))) (ok_t_n (ok_t_n (ok_t_l (ok_iload_n dX3_width_9 rfl)) (ok_t_l (ok_bipush dX3_width_10 rfl))) (ok_t_n (ok_t_l (ok_inv (run_SN (y := 192) (n := 2) dX3_width_12 cz_192 gdG cc_192 ci_192 nst_10 cm_192 cd_192 cl_192))) (ok_t_n (ok_t_l (ok_if_eq dX3_width_15 rfl)) (ok_t_l (ok_aload_n dX3_width_18 rfl)))))) (ok_t_n (ok_t_n (ok_t_n (ok_t_l (ok_getfield dX3_width_19 (ci := 3) (kf := 9) rfl inGX3 (by decide) w_1239)) (ok_t_l (ok_iload_n dX3_width_22 rfl))) (ok_t_n (ok_t_l (ok_bipush dX3_width_23 rfl)) (ok_t_n (ok_t_l (ok_imul dX3_width_25)) (ok_t_l (ok_iload_n dX3_width_26 rfl))))) (ok_t_n (ok_t_n (ok_t_l (ok_iadd dX3_width_27)) (ok_t_l (ok_iaload dX3_width_28))) (ok_t_n (ok_t_l (ok_goto dX3_width_29 rfl)) (ok_t_n (ok_t_l (ok_iconst dX3_width_32 rfl)) (ok_t_l (ok_ireturn dX3_width_33)))))))
theorem dX3_layOut_0 : decode cX3_layOut 0 = .ok (.aload_n 0, 1) := by decide +kernel
theorem dX3_layOut_1 : decode cX3_layOut 1 = .ok (.invokevirtual 72, 3) := by decide +kernel
theorem dX3_layOut_4 : decode cX3_layOut 4 = .ok (.iconst 0, 1) := by decide +kernel
theorem dX3_layOut_5 : decode cX3_layOut 5 = .ok (.istore_n 2, 1) := by decide +kernel
theorem dX3_layOut_6 : decode cX3_layOut 6 = .ok (.iload_n 2, 1) := by decide +kernel
theorem dX3_layOut_7 : decode cX3_layOut 7 = .ok (.sipush 192, 3) := by decide +kernel
theorem dX3_layOut_10 : decode cX3_layOut 10 = .ok (.if_icmp .gt 32, 3) := by decide +kernel
theorem dX3_layOut_13 : decode cX3_layOut 13 = .ok (.aload_n 0, 1) := by decide +kernel
theorem dX3_layOut_14 : decode cX3_layOut 14 = .ok (.invokevirtual 75, 3) := by decide +kernel
theorem dX3_layOut_17 : decode cX3_layOut 17 = .ok (.aload_n 0, 1) := by decide +kernel
theorem dX3_layOut_18 : decode cX3_layOut 18 = .ok (.invokevirtual 78, 3) := by decide +kernel
theorem dX3_layOut_21 : decode cX3_layOut 21 = .ok (.aload_n 0, 1) := by decide +kernel
theorem dX3_layOut_22 : decode cX3_layOut 22 = .ok (.invokevirtual 81, 3) := by decide +kernel
theorem dX3_layOut_25 : decode cX3_layOut 25 = .ok (.aload_n 0, 1) := by decide +kernel
theorem dX3_layOut_26 : decode cX3_layOut 26 = .ok (.iload_n 1, 1) := by decide +kernel
theorem dX3_layOut_27 : decode cX3_layOut 27 = .ok (.invokevirtual 84, 3) := by decide +kernel
theorem dX3_layOut_30 : decode cX3_layOut 30 = .ok (.ifCond .ne 6, 3) := by decide +kernel
theorem dX3_layOut_33 : decode cX3_layOut 33 = .ok (.goto 9, 3) := by decide +kernel
theorem dX3_layOut_36 : decode cX3_layOut 36 = .ok (.iinc 2 1, 3) := by decide +kernel
theorem dX3_layOut_39 : decode cX3_layOut 39 = .ok (.goto (-33), 3) := by decide +kernel
theorem dX3_layOut_42 : decode cX3_layOut 42 = .ok (.return_, 1) := by decide +kernel
def g_X3_layOut : Nat → EA := (t_n 18 (t_n 7 (t_n 4 (t_n 1 (t_l 0 (a_aload 1 0)) (t_l 1 (a_inv true 32 1 (some 3)))) (t_n 5 (t_l 4 (a_push 1 (.int 0))) (t_n 6 (t_l 5 (a_istore 3 1 2)) (t_l 6 (a_iload 1 2))))) (t_n 13 (t_n 10 (t_l 7 (a_push 3 (.int 192))) (t_l 10 (a_ic 42 (fun x y => decide (y < x))))) (t_n 14 (t_l 13 (a_aload 1 0)) (t_n 17 (t_l 14 (a_inv true 34 1 (some 3))) (t_l 17 (a_aload 1 0)))))) (t_n 27 (t_n 22 (t_n 21 (t_l 18 (a_inv true 35 1 (some 3))) (t_l 21 (a_aload 1 0))) (t_n 25 (t_l 22 (a_inv true 36 1 (some 3))) (t_n 26 (t_l 25 (a_aload 1 0)) (t_l 26 (a_iload 1 1))))) (t_n 36 (t_n 30 (t_l 27 (a_inv true 38 2 (some 3))) (t_n 33 (t_l 30 (a_if 36 (fun x => !decide (x = 0)))) (t_l 33 (a_goto 42)))) (t_n 39 (t_l 36 (a_iinc 3 2 1)) (t_n 42 (t_l 39 (a_goto 6)) (t_l 42 a_vret))))))
set_option maxRecDepth 100000 in
theorem k_X3_layOut (sc : Nat × (Nat → Int32)) (d : Nat) : ∀ pc, ev_Ok cX3_layOut 3 [] RX3 lw_g lw_n (lw_q sc) vwCl false (ev_CO mt lw_g lw_n (lw_q sc) vwCl d) pc (g_X3_layOut pc) := (ok_t_n (ok_t_n (ok_t_n (ok_t_n (ok_t_l (ok_aload_n dX3_layOut_0 rfl)) (ok_t_l (ok_inv (run_V (y := 32) (n := 0) (ci := 3) dX3_layOut_1 cz_32 gdG cc_32 ci_32 w_453 cm_32 cs_32 cd_32 cl_32 rfl rfl)))) (ok_t_n (ok_t_l (ok_iconst dX3_layOut_4 rfl)) (ok_t_n (ok_t_l (ok_istore_n dX3_layOut_5 rfl)) (ok_t_l (ok_iload_n dX3_layOut_6 rfl))))) (ok_t_n (ok_t_n (ok_t_l (ok_sipush dX3_layOut_7 rfl)) (ok_t_l (ok_icmp_gt dX3_layOut_10 rfl))) (ok_t_n (ok_t_l (ok_aload_n dX3_layOut_13 rfl)) (ok_t_n (ok_t_l (ok_inv (run_V (y := 34) (n := 0) (ci := 3) dX3_layOut_14 cz_34 gdG cc_34 ci_34 w_475 cm_34 cs_34 cd_34 cl_34 rfl rfl))) (ok_t_l (ok_aload_n dX3_layOut_17 rfl)))))) (ok_t_n (ok_t_n (ok_t_n (ok_t_l (ok_inv (run_V (y := 35) (n := 0) (ci := 3) dX3_layOut_18 cz_35 gdG cc_35 ci_35 w_494 cm_35 cs_35 cd_35 cl_35 rfl rfl))) (ok_t_l (ok_aload_n dX3_layOut_21 rfl))) (ok_t_n (ok_t_l (ok_inv (run_V (y := 36) (n := 0) (ci := 3) dX3_layOut_22 cz_36 gdG cc_36 ci_36 w_510 cm_36 cs_36 cd_36 cl_36 rfl rfl))) (ok_t_n (ok_t_l (ok_aload_n dX3_layOut_25 rfl)) (ok_t_l (ok_iload_n dX3_layOut_26 rfl))))) (ok_t_n (ok_t_n (ok_t_l (ok_inv (run_V (y := 38) (n := 1) (ci := 3) dX3_layOut_27 cz_38 gdG cc_38 ci_38 w_519 cm_38 cs_38 cd_38 cl_38 rfl rfl))) (ok_t_n (ok_t_l (ok_if_ne dX3_layOut_30 rfl)) (ok_t_l (ok_goto dX3_layOut_33 rfl)))) (ok_t_n (ok_t_l (ok_iinc dX3_layOut_36 rfl)) (ok_t_n (ok_t_l (ok_goto dX3_layOut_39 rfl)) (ok_t_l (ok_vreturn dX3_layOut_42)))))))
theorem dX3_orderSections_0 : decode cX3_orderSections 0 = .ok (.aload_n 0, 1) := by decide +kernel
theorem dX3_orderSections_1 : decode cX3_orderSections 1 = .ok (.iconst 0, 1) := by decide +kernel
theorem dX3_orderSections_2 : decode cX3_orderSections 2 = .ok (.putfield 15, 3) := by decide +kernel
theorem dX3_orderSections_5 : decode cX3_orderSections 5 = .ok (.iconst 0, 1) := by decide +kernel
theorem dX3_orderSections_6 : decode cX3_orderSections 6 = .ok (.istore_n 1, 1) := by decide +kernel
theorem dX3_orderSections_7 : decode cX3_orderSections 7 = .ok (.iload_n 1, 1) := by decide +kernel
theorem dX3_orderSections_8 : decode cX3_orderSections 8 = .ok (.aload_n 0, 1) := by decide +kernel
theorem dX3_orderSections_9 : decode cX3_orderSections 9 = .ok (.getfield 44, 3) := by decide +kernel
theorem dX3_orderSections_12 : decode cX3_orderSections 12 = .ok (.invokevirtual 87, 3) := by decide +kernel
theorem dX3_orderSections_15 : decode cX3_orderSections 15 = .ok (.if_icmp .ge 65, 3) := by decide +kernel
theorem dX3_orderSections_18 : decode cX3_orderSections 18 = .ok (.aload_n 0, 1) := by decide +kernel
theorem dX3_orderSections_19 : decode cX3_orderSections 19 = .ok (.getfield 44, 3) := by decide +kernel
theorem dX3_orderSections_22 : decode cX3_orderSections 22 = .ok (.iload_n 1, 1) := by decide +kernel
theorem dX3_orderSections_23 : decode cX3_orderSections 23 = .ok (.invokevirtual 93, 3) := by decide +kernel
theorem dX3_orderSections_26 : decode cX3_orderSections 26 = .ok (.istore_n 2, 1) := by decide +kernel
theorem dX3_orderSections_27 : decode cX3_orderSections 27 = .ok (.iconst 0, 1) := by decide +kernel
theorem dX3_orderSections_28 : decode cX3_orderSections 28 = .ok (.istore_n 3, 1) := by decide +kernel
theorem dX3_orderSections_29 : decode cX3_orderSections 29 = .ok (.iload_n 3, 1) := by decide +kernel
theorem dX3_orderSections_30 : decode cX3_orderSections 30 = .ok (.aload_n 0, 1) := by decide +kernel
theorem dX3_orderSections_31 : decode cX3_orderSections 31 = .ok (.getfield 40, 3) := by decide +kernel
theorem dX3_orderSections_34 : decode cX3_orderSections 34 = .ok (.invokevirtual 96, 3) := by decide +kernel
theorem dX3_orderSections_37 : decode cX3_orderSections 37 = .ok (.if_icmp .ge 37, 3) := by decide +kernel
theorem dX3_orderSections_40 : decode cX3_orderSections 40 = .ok (.aload_n 0, 1) := by decide +kernel
theorem dX3_orderSections_41 : decode cX3_orderSections 41 = .ok (.getfield 52, 3) := by decide +kernel
theorem dX3_orderSections_44 : decode cX3_orderSections 44 = .ok (.iload_n 3, 1) := by decide +kernel
theorem dX3_orderSections_45 : decode cX3_orderSections 45 = .ok (.invokevirtual 56, 3) := by decide +kernel
theorem dX3_orderSections_48 : decode cX3_orderSections 48 = .ok (.ifCond .eq 20, 3) := by decide +kernel
theorem dX3_orderSections_51 : decode cX3_orderSections 51 = .ok (.aload_n 0, 1) := by decide +kernel
theorem dX3_orderSections_52 : decode cX3_orderSections 52 = .ok (.getfield 40, 3) := by decide +kernel
theorem dX3_orderSections_55 : decode cX3_orderSections 55 = .ok (.iload_n 3, 1) := by decide +kernel
theorem dX3_orderSections_56 : decode cX3_orderSections 56 = .ok (.invokevirtual 99, 3) := by decide +kernel
theorem dX3_orderSections_59 : decode cX3_orderSections 59 = .ok (.iload_n 2, 1) := by decide +kernel
theorem dX3_orderSections_60 : decode cX3_orderSections 60 = .ok (.if_icmp .ne 8, 3) := by decide +kernel
theorem dX3_orderSections_63 : decode cX3_orderSections 63 = .ok (.aload_n 0, 1) := by decide +kernel
theorem dX3_orderSections_64 : decode cX3_orderSections 64 = .ok (.iload_n 3, 1) := by decide +kernel
theorem dX3_orderSections_65 : decode cX3_orderSections 65 = .ok (.invokevirtual 102, 3) := by decide +kernel
theorem dX3_orderSections_68 : decode cX3_orderSections 68 = .ok (.iinc 3 1, 3) := by decide +kernel
theorem dX3_orderSections_71 : decode cX3_orderSections 71 = .ok (.goto (-42), 3) := by decide +kernel
theorem dX3_orderSections_74 : decode cX3_orderSections 74 = .ok (.iinc 1 1, 3) := by decide +kernel
theorem dX3_orderSections_77 : decode cX3_orderSections 77 = .ok (.goto (-70), 3) := by decide +kernel
theorem dX3_orderSections_80 : decode cX3_orderSections 80 = .ok (.return_, 1) := by decide +kernel
def g_X3_orderSections : Nat → EA := (t_n 34 (t_n 18 (t_n 7 (t_n 2 (t_n 1 (t_l 0 (a_aload 1 0)) (t_l 1 (a_push 1 (.int 0)))) (t_n 5 (t_l 2 (a_putf 0 3 5)) (t_n 6 (t_l 5 (a_push 1 (.int 0))) (t_l 6 (a_istore 4 1 1))))) (t_n 9 (t_n 8 (t_l 7 (a_iload 1 1)) (t_l 8 (a_aload 1 0))) (t_n 12 (t_l 9 (a_getf 3 1)) (t_n 15 (t_l 12 (a_inv true 149 1 (some 10))) (t_l 15 (a_ic 80 (fun x y => decide (y ≤ x)))))))) (t_n 27 (t_n 22 (t_n 19 (t_l 18 (a_aload 1 0)) (t_l 19 (a_getf 3 1))) (t_n 23 (t_l 22 (a_iload 1 1)) (t_n 26 (t_l 23 (a_inv true 150 2 (some 10))) (t_l 26 (a_istore 4 1 2))))) (t_n 29 (t_n 28 (t_l 27 (a_push 1 (.int 0))) (t_l 28 (a_istore 4 1 3))) (t_n 30 (t_l 29 (a_iload 1 3)) (t_n 31 (t_l 30 (a_aload 1 0)) (t_l 31 (a_getf 3 0))))))) (t_n 56 (t_n 45 (t_n 40 (t_n 37 (t_l 34 (a_inv true 117 1 (some 8))) (t_l 37 (a_ic 74 (fun x y => decide (y ≤ x))))) (t_n 41 (t_l 40 (a_aload 1 0)) (t_n 44 (t_l 41 (a_getf 3 3)) (t_l 44 (a_iload 1 3))))) (t_n 51 (t_n 48 (t_l 45 (a_inv true 105 2 (some 7))) (t_l 48 (a_if 68 (fun x => decide (x = 0))))) (t_n 52 (t_l 51 (a_aload 1 0)) (t_n 55 (t_l 52 (a_getf 3 0)) (t_l 55 (a_iload 1 3)))))) (t_n 65 (t_n 60 (t_n 59 (t_l 56 (a_inv true 123 2 (some 8))) (t_l 59 (a_iload 1 2))) (t_n 63 (t_l 60 (a_ic 68 (fun x y => !decide (x = y)))) (t_n 64 (t_l 63 (a_aload 1 0)) (t_l 64 (a_iload 1 3))))) (t_n 74 (t_n 68 (t_l 65 (a_inv true 33 2 (some 3))) (t_n 71 (t_l 68 (a_iinc 4 3 1)) (t_l 71 (a_goto 29)))) (t_n 77 (t_l 74 (a_iinc 4 1 1)) (t_n 80 (t_l 77 (a_goto 7)) (t_l 80 a_vret)))))))
set_option maxRecDepth 100000 in
theorem k_X3_orderSections (sc : Nat × (Nat → Int32)) (d : Nat) : ∀ pc, ev_Ok cX3_orderSections 4 [] RX3 lw_g lw_n (lw_q sc) vwCl false (ev_CO mt lw_g lw_n (lw_q sc) vwCl d) pc (g_X3_orderSections pc) := (ok_t_n (ok_t_n (ok_t_n (ok_t_n (ok_t_n (ok_t_l (ok_aload_n dX3_orderSections_0 rfl)) (ok_t_l (ok_iconst dX3_orderSections_1 rfl))) (ok_t_n (ok_t_l (ok_putfield dX3_orderSections_2 (ci := 3) (kf := 5) rfl inGX3 (by decide) tyX3_ok nmX3 rfl w_1235 rfl)) (ok_t_n (ok_t_l (ok_iconst dX3_orderSections_5 rfl)) (ok_t_l (ok_istore_n dX3_orderSections_6 rfl))))) (ok_t_n (ok_t_n (ok_t_l (ok_iload_n dX3_orderSections_7 rfl)) (ok_t_l (ok_aload_n dX3_orderSections_8 rfl))) (ok_t_n (ok_t_l (ok_getfield dX3_orderSections_9 (ci := 3) (kf := 1) rfl inGX3 (by decide) w_1231)) (ok_t_n (ok_t_l (ok_inv (run_V (y := 149) (n := 0) (ci := 10) dX3_orderSections_12 cz_149 gdG cc_149 ci_149 w_458 cm_149 cs_149 cd_149 cl_149 rfl rfl))) (ok_t_l (ok_icmp_ge dX3_orderSections_15 rfl)))))) (ok_t_n (ok_t_n (ok_t_n (ok_t_l (ok_aload_n dX3_orderSections_18 rfl)) (ok_t_l (ok_getfield dX3_orderSections_19 (ci := 3) (kf := 1) rfl inGX3 (by decide) w_1231))) (ok_t_n (ok_t_l (ok_iload_n dX3_orderSections_22 rfl)) (ok_t_n (ok_t_l (ok_inv (run_V (y := 150) (n := 1) (ci := 10) dX3_orderSections_23 cz_150 gdG cc_150 ci_150 w_459 cm_150 cs_150 cd_150 cl_150 rfl rfl))) (ok_t_l (ok_istore_n dX3_orderSections_26 rfl))))) (ok_t_n (ok_t_n (ok_t_l (ok_iconst dX3_orderSections_27 rfl)) (ok_t_l (ok_istore_n dX3_orderSections_28 rfl))) (ok_t_n (ok_t_l (ok_iload_n dX3_orderSections_29 rfl)) (ok_t_n (ok_t_l (ok_aload_n dX3_orderSections_30 rfl)) (ok_t_l (ok_getfield dX3_orderSections_31 (ci := 3) (kf := 0) rfl inGX3 (by decide) w_1230))))))) (ok_t_n (ok_t_n (ok_t_n (ok_t_n (ok_t_l (ok_inv (run_V (y := 117) (n := 0) (ci := 8) dX3_orderSections_34 cz_117 gdG cc_117 ci_117 w_460 cm_117 cs_117 cd_117 cl_117 rfl rfl))) (ok_t_l (ok_icmp_ge dX3_orderSections_37 rfl))) (ok_t_n (ok_t_l (ok_aload_n dX3_orderSections_40 rfl)) (ok_t_n (ok_t_l (ok_getfield dX3_orderSections_41 (ci := 3) (kf := 3) rfl inGX3 (by decide) w_1233)) (ok_t_l (ok_iload_n dX3_orderSections_44 rfl))))) (ok_t_n (ok_t_n (ok_t_l (ok_inv (run_V (y := 105) (n := 1) (ci := 7) dX3_orderSections_45 cz_105 gdG cc_105 ci_105 w_461 cm_105 cs_105 cd_105 cl_105 rfl rfl))) (ok_t_l (ok_if_eq dX3_orderSections_48 rfl))) (ok_t_n (ok_t_l (ok_aload_n dX3_orderSections_51 rfl)) (ok_t_n (ok_t_l (ok_getfield dX3_orderSections_52 (ci := 3) (kf := 0) rfl inGX3 (by decide) w_1230)) (ok_t_l (ok_iload_n dX3_orderSections_55 rfl)))))) (ok_t_n (ok_t_n (ok_t_n (ok_t_l (ok_inv (run_V (y := 123) (n := 1) (ci := 8) dX3_orderSections_56 cz_123 gdG cc_123 ci_123 w_465 cm_123 cs_123 cd_123 cl_123 rfl rfl))) (ok_t_l (ok_iload_n dX3_orderSections_59 rfl))) (ok_t_n (ok_t_l (ok_icmp_ne dX3_orderSections_60 rfl)) (ok_t_n (ok_t_l (ok_aload_n dX3_orderSections_63 rfl)) (ok_t_l (ok_iload_n dX3_orderSections_64 rfl))))) (ok_t_n (ok_t_n (ok_t_l (ok_inv (run_V (y := 33) (n := 1) (ci := 3) dX3_orderSections_65 cz_33 gdG cc_33 ci_33 w_466 cm_33 cs_33 cd_33 cl_33 rfl rfl))) (ok_t_n (ok_t_l (ok_iinc dX3_orderSections_68 rfl)) (ok_t_l (ok_goto dX3_orderSections_71 rfl)))) (ok_t_n (ok_t_l (ok_iinc dX3_orderSections_74 rfl)) (ok_t_n (ok_t_l (ok_goto dX3_orderSections_77 rfl)) (ok_t_l (ok_vreturn dX3_orderSections_80))))))))
theorem dX3_append_0 : decode cX3_append 0 = .ok (.aload_n 0, 1) := by decide +kernel
theorem dX3_append_1 : decode cX3_append 1 = .ok (.getfield 15, 3) := by decide +kernel
theorem dX3_append_4 : decode cX3_append 4 = .ok (.bipush 24, 2) := by decide +kernel
theorem dX3_append_6 : decode cX3_append 6 = .ok (.if_icmp .ge 12, 3) := by decide +kernel
theorem dX3_append_9 : decode cX3_append 9 = .ok (.iload_n 1, 1) := by decide +kernel
theorem dX3_append_10 : decode cX3_append 10 = .ok (.bipush 24, 2) := by decide +kernel
theorem dX3_append_12 : decode cX3_append 12 = .ok (.invokestatic 62, 3) := by decide +kernel
theorem dX3_append_15 : decode cX3_append 15 = .ok (.ifCond .ne 4, 3) := by decide +kernel
theorem dX3_append_18 : decode cX3_append 18 = .ok (.return_, 1) := by decide +kernel
theorem dX3_append_19 : decode cX3_append 19 = .ok (.aload_n 0, 1) := by decide +kernel
theorem dX3_append_20 : decode cX3_append 20 = .ok (.getfield 9, 3) := by decide +kernel
theorem dX3_append_23 : decode cX3_append 23 = .ok (.aload_n 0, 1) := by decide +kernel
theorem dX3_append_24 : decode cX3_append 24 = .ok (.getfield 15, 3) := by decide +kernel
theorem dX3_append_27 : decode cX3_append 27 = .ok (.iload_n 1, 1) := by decide +kernel
theorem dX3_append_28 : decode cX3_append 28 = .ok (.iastore, 1) := by decide +kernel
theorem dX3_append_29 : decode cX3_append 29 = .ok (.aload_n 0, 1) := by decide +kernel
theorem dX3_append_30 : decode cX3_append 30 = .ok (.dup, 1) := by decide +kernel
theorem dX3_append_31 : decode cX3_append 31 = .ok (.getfield 15, 3) := by decide +kernel
theorem dX3_append_34 : decode cX3_append 34 = .ok (.iconst 1, 1) := by decide +kernel
theorem dX3_append_35 : decode cX3_append 35 = .ok (.iadd, 1) := by decide +kernel
theorem dX3_append_36 : decode cX3_append 36 = .ok (.putfield 15, 3) := by decide +kernel
theorem dX3_append_39 : decode cX3_append 39 = .ok (.aload_n 0, 1) := by decide +kernel
theorem dX3_append_40 : decode cX3_append 40 = .ok (.getfield 25, 3) := by decide +kernel
theorem dX3_append_43 : decode cX3_append 43 = .ok (.iload_n 1, 1) := by decide +kernel
theorem dX3_append_44 : decode cX3_append 44 = .ok (.iconst 0, 1) := by decide +kernel
theorem dX3_append_45 : decode cX3_append 45 = .ok (.iastore, 1) := by decide +kernel
theorem dX3_append_46 : decode cX3_append 46 = .ok (.iconst 0, 1) := by decide +kernel
theorem dX3_append_47 : decode cX3_append 47 = .ok (.istore_n 2, 1) := by decide +kernel
theorem dX3_append_48 : decode cX3_append 48 = .ok (.iload_n 2, 1) := by decide +kernel
theorem dX3_append_49 : decode cX3_append 49 = .ok (.bipush 8, 2) := by decide +kernel
theorem dX3_append_51 : decode cX3_append 51 = .ok (.if_icmp .ge 29, 3) := by decide +kernel
theorem dX3_append_54 : decode cX3_append 54 = .ok (.aload_n 0, 1) := by decide +kernel
theorem dX3_append_55 : decode cX3_append 55 = .ok (.getfield 28, 3) := by decide +kernel
theorem dX3_append_58 : decode cX3_append 58 = .ok (.iload_n 1, 1) := by decide +kernel
theorem dX3_append_59 : decode cX3_append 59 = .ok (.bipush 8, 2) := by decide +kernel
theorem dX3_append_61 : decode cX3_append 61 = .ok (.imul, 1) := by decide +kernel
theorem dX3_append_62 : decode cX3_append 62 = .ok (.iload_n 2, 1) := by decide +kernel
theorem dX3_append_63 : decode cX3_append 63 = .ok (.iadd, 1) := by decide +kernel
theorem dX3_append_64 : decode cX3_append 64 = .ok (.aload_n 0, 1) := by decide +kernel
theorem dX3_append_65 : decode cX3_append 65 = .ok (.getfield 40, 3) := by decide +kernel
theorem dX3_append_68 : decode cX3_append 68 = .ok (.iload_n 1, 1) := by decide +kernel
theorem dX3_append_69 : decode cX3_append 69 = .ok (.iload_n 2, 1) := by decide +kernel
theorem dX3_append_70 : decode cX3_append 70 = .ok (.invokevirtual 106, 3) := by decide +kernel
theorem dX3_append_73 : decode cX3_append 73 = .ok (.iastore, 1) := by decide +kernel
theorem dX3_append_74 : decode cX3_append 74 = .ok (.iinc 2 1, 3) := by decide +kernel
theorem dX3_append_77 : decode cX3_append 77 = .ok (.goto (-29), 3) := by decide +kernel
theorem dX3_append_80 : decode cX3_append 80 = .ok (.return_, 1) := by decide +kernel
def g_X3_append : Nat → EA := (t_n 43 (t_n 23 (t_n 10 (t_n 4 (t_n 1 (t_l 0 (a_aload 1 0)) (t_l 1 (a_getf 3 5))) (t_n 6 (t_l 4 (a_push 2 (.int 24))) (t_n 9 (t_l 6 (a_ic 18 (fun x y => decide (y ≤ x)))) (t_l 9 (a_iload 1 1))))) (t_n 18 (t_n 12 (t_l 10 (a_push 2 (.int 24))) (t_n 15 (t_l 12 (a_inv false 192 2 none)) (t_l 15 (a_if 19 (fun x => !decide (x = 0)))))) (t_n 19 (t_l 18 a_vret) (t_n 20 (t_l 19 (a_aload 1 0)) (t_l 20 (a_getf 3 4)))))) (t_n 31 (t_n 28 (t_n 24 (t_l 23 (a_aload 1 0)) (t_n 27 (t_l 24 (a_getf 3 5)) (t_l 27 (a_iload 1 1)))) (t_n 29 (t_l 28 (a_ist 0)) (t_n 30 (t_l 29 (a_aload 1 0)) (t_l 30 a_dup)))) (t_n 36 (t_n 34 (t_l 31 (a_getf 3 5)) (t_n 35 (t_l 34 (a_push 1 (.int 1))) (t_l 35 (a_ii 1 (fun x y => x + y))))) (t_n 39 (t_l 36 (a_putf 0 3 5)) (t_n 40 (t_l 39 (a_aload 1 0)) (t_l 40 (a_getf 3 8))))))) (t_n 61 (t_n 49 (t_n 46 (t_n 44 (t_l 43 (a_iload 1 1)) (t_n 45 (t_l 44 (a_push 1 (.int 0))) (t_l 45 (a_ist 0)))) (t_n 47 (t_l 46 (a_push 1 (.int 0))) (t_n 48 (t_l 47 (a_istore 3 1 2)) (t_l 48 (a_iload 1 2))))) (t_n 55 (t_n 51 (t_l 49 (a_push 2 (.int 8))) (t_n 54 (t_l 51 (a_ic 80 (fun x y => decide (y ≤ x)))) (t_l 54 (a_aload 1 0)))) (t_n 58 (t_l 55 (a_getf 3 9)) (t_n 59 (t_l 58 (a_iload 1 1)) (t_l 59 (a_push 2 (.int 8))))))) (t_n 69 (t_n 64 (t_n 62 (t_l 61 (a_ii 1 (fun x y => x * y))) (t_n 63 (t_l 62 (a_iload 1 2)) (t_l 63 (a_ii 1 (fun x y => x + y))))) (t_n 65 (t_l 64 (a_aload 1 0)) (t_n 68 (t_l 65 (a_getf 3 0)) (t_l 68 (a_iload 1 1))))) (t_n 74 (t_n 70 (t_l 69 (a_iload 1 2)) (t_n 73 (t_l 70 (a_inv true 131 3 (some 8))) (t_l 73 (a_ist 0)))) (t_n 77 (t_l 74 (a_iinc 3 2 1)) (t_n 80 (t_l 77 (a_goto 48)) (t_l 80 a_vret)))))))
set_option maxRecDepth 100000 in
theorem k_X3_append (sc : Nat × (Nat → Int32)) (d : Nat) : ∀ pc, ev_Ok cX3_append 3 [] RX3 lw_g lw_n (lw_q sc) vwCl false (ev_CO mt lw_g lw_n (lw_q sc) vwCl d) pc (g_X3_append pc) := (ok_t_n (ok_t_n (ok_t_n (ok_t_n (ok_t_n (ok_t_l (ok_aload_n dX3_append_0 rfl)) (ok_t_l (ok_getfield dX3_append_1 (ci := 3) (kf := 5) rfl inGX3 (by decide) w_1235))) (ok_t_n (ok_t_l (ok_bipush dX3_append_4 rfl)) (ok_t_n (ok_t_l (ok_icmp_ge dX3_append_6 rfl)) (ok_t_l (ok_iload_n dX3_append_9 rfl))))) (ok_t_n (ok_t_n (ok_t_l (ok_bipush dX3_append_10 rfl)) (ok_t_n (ok_t_l (ok_inv (run_SN (y := 192) (n := 2) dX3_append_12 cz_192 gdG cc_192 ci_192 nst_10 cm_192 cd_192 cl_192))) (ok_t_l (ok_if_ne dX3_append_15 rfl)))) (ok_t_n (ok_t_l (ok_vreturn dX3_append_18)) (ok_t_n (ok_t_l (ok_aload_n dX3_append_19 rfl)) (ok_t_l (ok_getfield dX3_append_20 (ci := 3) (kf := 4) rfl inGX3 (by decide) w_1234)))))) (ok_t_n (ok_t_n (ok_t_n (ok_t_l (ok_aload_n dX3_append_23 rfl)) (ok_t_n (ok_t_l (ok_getfield dX3_append_24 (ci := 3) (kf := 5) rfl inGX3 (by decide) w_1235)) (ok_t_l (ok_iload_n dX3_append_27 rfl)))) (ok_t_n (ok_t_l (ok_iastore dX3_append_28)) (ok_t_n (ok_t_l (ok_aload_n dX3_append_29 rfl)) (ok_t_l (ok_dup dX3_append_30))))) (ok_t_n (ok_t_n (ok_t_l (ok_getfield dX3_append_31 (ci := 3) (kf := 5) rfl inGX3 (by decide) w_1235)) (ok_t_n (ok_t_l (ok_iconst dX3_append_34 rfl)) (ok_t_l (ok_iadd dX3_append_35)))) (ok_t_n (ok_t_l (ok_putfield dX3_append_36 (ci := 3) (kf := 5) rfl inGX3 (by decide) tyX3_ok nmX3 rfl w_1235 rfl)) (ok_t_n (ok_t_l (ok_aload_n dX3_append_39 rfl)) (ok_t_l (ok_getfield dX3_append_40 (ci := 3) (kf := 8) rfl inGX3 (by decide) w_1238))))))) (ok_t_n (ok_t_n (ok_t_n (ok_t_n (ok_t_l (ok_iload_n dX3_append_43 rfl)) (ok_t_n (ok_t_l (ok_iconst dX3_append_44 rfl)) (ok_t_l (ok_iastore dX3_append_45)))) (ok_t_n (ok_t_l (ok_iconst dX3_append_46 rfl)) (ok_t_n (ok_t_l (ok_istore_n dX3_append_47 rfl)) (ok_t_l (ok_iload_n dX3_append_48 rfl))))) (ok_t_n (ok_t_n (ok_t_l (ok_bipush dX3_append_49 rfl)) (ok_t_n (ok_t_l (ok_icmp_ge dX3_append_51 rfl)) (ok_t_l (ok_aload_n dX3_append_54 rfl)))) (ok_t_n (ok_t_l (ok_getfield dX3_append_55 (ci := 3) (kf := 9) rfl inGX3 (by decide) w_1239)) (ok_t_n (ok_t_l (ok_iload_n dX3_append_58 rfl)) (ok_t_l (ok_bipush dX3_append_59 rfl)))))) (ok_t_n (ok_t_n (ok_t_n (ok_t_l (ok_imul dX3_append_61)) (ok_t_n (ok_t_l (ok_iload_n dX3_append_62 rfl)) (ok_t_l (ok_iadd dX3_append_63)))) (ok_t_n (ok_t_l (ok_aload_n dX3_append_64 rfl)) (ok_t_n (ok_t_l (ok_getfield dX3_append_65 (ci := 3) (kf := 0) rfl inGX3 (by decide) w_1230)) (ok_t_l (ok_iload_n dX3_append_68 rfl))))) (ok_t_n (ok_t_n (ok_t_l (ok_iload_n dX3_append_69 rfl)) (ok_t_n (ok_t_l (ok_inv (run_V (y := 131) (n := 2) (ci := 8) dX3_append_70 cz_131 gdG cc_131 ci_131 w_471 cm_131 cs_131 cd_131 cl_131 rfl rfl))) (ok_t_l (ok_iastore dX3_append_73)))) (ok_t_n (ok_t_l (ok_iinc dX3_append_74 rfl)) (ok_t_n (ok_t_l (ok_goto dX3_append_77 rfl)) (ok_t_l (ok_vreturn dX3_append_80))))))))
theorem dX3_placeSections_0 : decode cX3_placeSections 0 = .ok (.aload_n 0, 1) := by decide +kernel
theorem dX3_placeSections_1 : decode cX3_placeSections 1 = .ok (.iconst 1, 1) := by decide +kernel
theorem dX3_placeSections_2 : decode cX3_placeSections 2 = .ok (.putfield 34, 3) := by decide +kernel
theorem dX3_placeSections_5 : decode cX3_placeSections 5 = .ok (.aload_n 0, 1) := by decide +kernel
theorem dX3_placeSections_6 : decode cX3_placeSections 6 = .ok (.iconst 0, 1) := by decide +kernel
theorem dX3_placeSections_7 : decode cX3_placeSections 7 = .ok (.putfield 37, 3) := by decide +kernel
theorem dX3_placeSections_10 : decode cX3_placeSections 10 = .ok (.iconst 0, 1) := by decide +kernel
theorem dX3_placeSections_11 : decode cX3_placeSections 11 = .ok (.istore_n 1, 1) := by decide +kernel
theorem dX3_placeSections_12 : decode cX3_placeSections 12 = .ok (.iload_n 1, 1) := by decide +kernel
theorem dX3_placeSections_13 : decode cX3_placeSections 13 = .ok (.aload_n 0, 1) := by decide +kernel
theorem dX3_placeSections_14 : decode cX3_placeSections 14 = .ok (.getfield 15, 3) := by decide +kernel
theorem dX3_placeSections_17 : decode cX3_placeSections 17 = .ok (.if_icmp .ge 97, 3) := by decide +kernel
theorem dX3_placeSections_20 : decode cX3_placeSections 20 = .ok (.iload_n 1, 1) := by decide +kernel
theorem dX3_placeSections_21 : decode cX3_placeSections 21 = .ok (.bipush 24, 2) := by decide +kernel
theorem dX3_placeSections_23 : decode cX3_placeSections 23 = .ok (.if_icmp .ge 91, 3) := by decide +kernel
theorem dX3_placeSections_26 : decode cX3_placeSections 26 = .ok (.aload_n 0, 1) := by decide +kernel
theorem dX3_placeSections_27 : decode cX3_placeSections 27 = .ok (.getfield 9, 3) := by decide +kernel
theorem dX3_placeSections_30 : decode cX3_placeSections 30 = .ok (.iload_n 1, 1) := by decide +kernel
theorem dX3_placeSections_31 : decode cX3_placeSections 31 = .ok (.iaload, 1) := by decide +kernel
theorem dX3_placeSections_32 : decode cX3_placeSections 32 = .ok (.istore_n 2, 1) := by decide +kernel
theorem dX3_placeSections_33 : decode cX3_placeSections 33 = .ok (.iload_n 2, 1) := by decide +kernel
theorem dX3_placeSections_34 : decode cX3_placeSections 34 = .ok (.bipush 24, 2) := by decide +kernel
theorem dX3_placeSections_36 : decode cX3_placeSections 36 = .ok (.invokestatic 62, 3) := by decide +kernel
theorem dX3_placeSections_39 : decode cX3_placeSections 39 = .ok (.ifCond .eq 69, 3) := by decide +kernel
theorem dX3_placeSections_42 : decode cX3_placeSections 42 = .ok (.aload_n 0, 1) := by decide +kernel
theorem dX3_placeSections_43 : decode cX3_placeSections 43 = .ok (.getfield 19, 3) := by decide +kernel
theorem dX3_placeSections_46 : decode cX3_placeSections 46 = .ok (.iload_n 2, 1) := by decide +kernel
theorem dX3_placeSections_47 : decode cX3_placeSections 47 = .ok (.aload_n 0, 1) := by decide +kernel
theorem dX3_placeSections_48 : decode cX3_placeSections 48 = .ok (.getfield 34, 3) := by decide +kernel
theorem dX3_placeSections_51 : decode cX3_placeSections 51 = .ok (.aload_n 0, 1) := by decide +kernel
theorem dX3_placeSections_52 : decode cX3_placeSections 52 = .ok (.getfield 40, 3) := by decide +kernel
theorem dX3_placeSections_55 : decode cX3_placeSections 55 = .ok (.iload_n 2, 1) := by decide +kernel
theorem dX3_placeSections_56 : decode cX3_placeSections 56 = .ok (.invokevirtual 110, 3) := by decide +kernel
theorem dX3_placeSections_59 : decode cX3_placeSections 59 = .ok (.invokestatic 113, 3) := by decide +kernel
theorem dX3_placeSections_62 : decode cX3_placeSections 62 = .ok (.iastore, 1) := by decide +kernel
theorem dX3_placeSections_63 : decode cX3_placeSections 63 = .ok (.aload_n 0, 1) := by decide +kernel
theorem dX3_placeSections_64 : decode cX3_placeSections 64 = .ok (.getfield 22, 3) := by decide +kernel
theorem dX3_placeSections_67 : decode cX3_placeSections 67 = .ok (.iload_n 2, 1) := by decide +kernel
theorem dX3_placeSections_68 : decode cX3_placeSections 68 = .ok (.aload_n 0, 1) := by decide +kernel
theorem dX3_placeSections_69 : decode cX3_placeSections 69 = .ok (.iload_n 2, 1) := by decide +kernel
theorem dX3_placeSections_70 : decode cX3_placeSections 70 = .ok (.bipush 8, 2) := by decide +kernel
theorem dX3_placeSections_72 : decode cX3_placeSections 72 = .ok (.invokevirtual 116, 3) := by decide +kernel
theorem dX3_placeSections_75 : decode cX3_placeSections 75 = .ok (.iastore, 1) := by decide +kernel
theorem dX3_placeSections_76 : decode cX3_placeSections 76 = .ok (.aload_n 0, 1) := by decide +kernel
theorem dX3_placeSections_77 : decode cX3_placeSections 77 = .ok (.dup, 1) := by decide +kernel
theorem dX3_placeSections_78 : decode cX3_placeSections 78 = .ok (.getfield 37, 3) := by decide +kernel
theorem dX3_placeSections_81 : decode cX3_placeSections 81 = .ok (.aload_n 0, 1) := by decide +kernel
theorem dX3_placeSections_82 : decode cX3_placeSections 82 = .ok (.getfield 22, 3) := by decide +kernel
theorem dX3_placeSections_85 : decode cX3_placeSections 85 = .ok (.iload_n 2, 1) := by decide +kernel
theorem dX3_placeSections_86 : decode cX3_placeSections 86 = .ok (.iaload, 1) := by decide +kernel
theorem dX3_placeSections_87 : decode cX3_placeSections 87 = .ok (.iadd, 1) := by decide +kernel
theorem dX3_placeSections_88 : decode cX3_placeSections 88 = .ok (.putfield 37, 3) := by decide +kernel
theorem dX3_placeSections_91 : decode cX3_placeSections 91 = .ok (.aload_n 0, 1) := by decide +kernel
theorem dX3_placeSections_92 : decode cX3_placeSections 92 = .ok (.aload_n 0, 1) := by decide +kernel
theorem dX3_placeSections_93 : decode cX3_placeSections 93 = .ok (.getfield 19, 3) := by decide +kernel
theorem dX3_placeSections_96 : decode cX3_placeSections 96 = .ok (.iload_n 2, 1) := by decide +kernel
theorem dX3_placeSections_97 : decode cX3_placeSections 97 = .ok (.iaload, 1) := by decide +kernel
theorem dX3_placeSections_98 : decode cX3_placeSections 98 = .ok (.aload_n 0, 1) := by decide +kernel
theorem dX3_placeSections_99 : decode cX3_placeSections 99 = .ok (.getfield 22, 3) := by decide +kernel
theorem dX3_placeSections_102 : decode cX3_placeSections 102 = .ok (.iload_n 2, 1) := by decide +kernel
theorem dX3_placeSections_103 : decode cX3_placeSections 103 = .ok (.iaload, 1) := by decide +kernel
theorem dX3_placeSections_104 : decode cX3_placeSections 104 = .ok (.iadd, 1) := by decide +kernel
theorem dX3_placeSections_105 : decode cX3_placeSections 105 = .ok (.putfield 34, 3) := by decide +kernel
theorem dX3_placeSections_108 : decode cX3_placeSections 108 = .ok (.iinc 1 1, 3) := by decide +kernel
theorem dX3_placeSections_111 : decode cX3_placeSections 111 = .ok (.goto (-99), 3) := by decide +kernel
theorem dX3_placeSections_114 : decode cX3_placeSections 114 = .ok (.return_, 1) := by decide +kernel
def g_X3_placeSections : Nat → EA := (t_n 59 (t_n 27 (t_n 12 (t_n 6 (t_n 2 (t_n 1 (t_l 0 (a_aload 1 0)) (t_l 1 (a_push 1 (.int 1)))) (t_n 5 (t_l 2 (a_putf 0 3 11)) (t_l 5 (a_aload 1 0)))) (t_n 10 (t_n 7 (t_l 6 (a_push 1 (.int 0))) (t_l 7 (a_putf 0 3 12))) (t_n 11 (t_l 10 (a_push 1 (.int 0))) (t_l 11 (a_istore 3 1 1))))) (t_n 20 (t_n 14 (t_n 13 (t_l 12 (a_iload 1 1)) (t_l 13 (a_aload 1 0))) (t_n 17 (t_l 14 (a_getf 3 5)) (t_l 17 (a_ic 114 (fun x y => decide (y ≤ x)))))) (t_n 23 (t_n 21 (t_l 20 (a_iload 1 1)) (t_l 21 (a_push 2 (.int 24)))) (t_n 26 (t_l 23 (a_ic 114 (fun x y => decide (y ≤ x)))) (t_l 26 (a_aload 1 0)))))) (t_n 42 (t_n 33 (t_n 31 (t_n 30 (t_l 27 (a_getf 3 4)) (t_l 30 (a_iload 1 1))) (t_n 32 (t_l 31 (a_ild 0)) (t_l 32 (a_istore 3 1 2)))) (t_n 36 (t_n 34 (t_l 33 (a_iload 1 2)) (t_l 34 (a_push 2 (.int 24)))) (t_n 39 (t_l 36 (a_inv false 192 2 none)) (t_l 39 (a_if 108 (fun x => decide (x = 0))))))) (t_n 48 (t_n 46 (t_n 43 (t_l 42 (a_aload 1 0)) (t_l 43 (a_getf 3 6))) (t_n 47 (t_l 46 (a_iload 1 2)) (t_l 47 (a_aload 1 0)))) (t_n 52 (t_n 51 (t_l 48 (a_getf 3 11)) (t_l 51 (a_aload 1 0))) (t_n 55 (t_l 52 (a_getf 3 0)) (t_n 56 (t_l 55 (a_iload 1 2)) (t_l 56 (a_inv true 124 2 (some 8))))))))) (t_n 86 (t_n 72 (t_n 67 (t_n 63 (t_n 62 (t_l 59 (a_inv false 197 2 none)) (t_l 62 (a_ist 0))) (t_n 64 (t_l 63 (a_aload 1 0)) (t_l 64 (a_getf 3 7)))) (t_n 69 (t_n 68 (t_l 67 (a_iload 1 2)) (t_l 68 (a_aload 1 0))) (t_n 70 (t_l 69 (a_iload 1 2)) (t_l 70 (a_push 2 (.int 8)))))) (t_n 78 (t_n 76 (t_n 75 (t_l 72 (a_inv true 37 3 (some 3))) (t_l 75 (a_ist 0))) (t_n 77 (t_l 76 (a_aload 1 0)) (t_l 77 a_dup))) (t_n 82 (t_n 81 (t_l 78 (a_getf 3 12)) (t_l 81 (a_aload 1 0))) (t_n 85 (t_l 82 (a_getf 3 7)) (t_l 85 (a_iload 1 2)))))) (t_n 98 (t_n 92 (t_n 88 (t_n 87 (t_l 86 (a_ild 0)) (t_l 87 (a_ii 1 (fun x y => x + y)))) (t_n 91 (t_l 88 (a_putf 0 3 12)) (t_l 91 (a_aload 1 0)))) (t_n 96 (t_n 93 (t_l 92 (a_aload 1 0)) (t_l 93 (a_getf 3 6))) (t_n 97 (t_l 96 (a_iload 1 2)) (t_l 97 (a_ild 0))))) (t_n 104 (t_n 102 (t_n 99 (t_l 98 (a_aload 1 0)) (t_l 99 (a_getf 3 7))) (t_n 103 (t_l 102 (a_iload 1 2)) (t_l 103 (a_ild 0)))) (t_n 108 (t_n 105 (t_l 104 (a_ii 1 (fun x y => x + y))) (t_l 105 (a_putf 0 3 11))) (t_n 111 (t_l 108 (a_iinc 3 1 1)) (t_n 114 (t_l 111 (a_goto 12)) (t_l 114 a_vret))))))))
set_option maxRecDepth 100000 in
theorem k_X3_placeSections (sc : Nat × (Nat → Int32)) (d : Nat) : ∀ pc, ev_Ok cX3_placeSections 3 [] RX3 lw_g lw_n (lw_q sc) vwCl false (ev_CO mt lw_g lw_n (lw_q sc) vwCl d) pc (g_X3_placeSections pc) := (ok_t_n (ok_t_n (ok_t_n (ok_t_n (ok_t_n (ok_t_n (ok_t_l (ok_aload_n dX3_placeSections_0 rfl)) (ok_t_l (ok_iconst dX3_placeSections_1 rfl))) (ok_t_n (ok_t_l (ok_putfield dX3_placeSections_2 (ci := 3) (kf := 11) rfl inGX3 (by decide) tyX3_ok nmX3 rfl w_1241 rfl)) (ok_t_l (ok_aload_n dX3_placeSections_5 rfl)))) (ok_t_n (ok_t_n (ok_t_l (ok_iconst dX3_placeSections_6 rfl)) (ok_t_l (ok_putfield dX3_placeSections_7 (ci := 3) (kf := 12) rfl inGX3 (by decide) tyX3_ok nmX3 rfl w_1242 rfl))) (ok_t_n (ok_t_l (ok_iconst dX3_placeSections_10 rfl)) (ok_t_l (ok_istore_n dX3_placeSections_11 rfl))))) (ok_t_n (ok_t_n (ok_t_n (ok_t_l (ok_iload_n dX3_placeSections_12 rfl)) (ok_t_l (ok_aload_n dX3_placeSections_13 rfl))) (ok_t_n (ok_t_l (ok_getfield dX3_placeSections_14 (ci := 3) (kf := 5) rfl inGX3 (by decide) w_1235)) (ok_t_l (ok_icmp_ge dX3_placeSections_17 rfl)))) (ok_t_n (ok_t_n (ok_t_l (ok_iload_n dX3_placeSections_20 rfl)) (ok_t_l (ok_bipush dX3_placeSections_21 rfl))) (ok_t_n (ok_t_l (ok_icmp_ge dX3_placeSections_23 rfl)) (ok_t_l (ok_aload_n dX3_placeSections_26 rfl)))))) (ok_t_n (ok_t_n (ok_t_n (ok_t_n (ok_t_l (ok_getfield dX3_placeSections_27 (ci := 3) (kf := 4) rfl inGX3 (by decide) w_1234)) (ok_t_l (ok_iload_n dX3_placeSections_30 rfl))) (ok_t_n (ok_t_l (ok_iaload dX3_placeSections_31)) (ok_t_l (ok_istore_n dX3_placeSections_32 rfl)))) (ok_t_n (ok_t_n (ok_t_l (ok_iload_n dX3_placeSections_33 rfl)) (ok_t_l (ok_bipush dX3_placeSections_34 rfl))) (ok_t_n (ok_t_l (ok_inv (run_SN (y := 192) (n := 2) dX3_placeSections_36 cz_192 gdG cc_192 ci_192 nst_10 cm_192 cd_192 cl_192))) (ok_t_l (ok_if_eq dX3_placeSections_39 rfl))))) (ok_t_n (ok_t_n (ok_t_n (ok_t_l (ok_aload_n dX3_placeSections_42 rfl)) (ok_t_l (ok_getfield dX3_placeSections_43 (ci := 3) (kf := 6) rfl inGX3 (by decide) w_1236))) (ok_t_n (ok_t_l (ok_iload_n dX3_placeSections_46 rfl)) (ok_t_l (ok_aload_n dX3_placeSections_47 rfl)))) (ok_t_n (ok_t_n (ok_t_l (ok_getfield dX3_placeSections_48 (ci := 3) (kf := 11) rfl inGX3 (by decide) w_1241)) (ok_t_l (ok_aload_n dX3_placeSections_51 rfl))) (ok_t_n (ok_t_l (ok_getfield dX3_placeSections_52 (ci := 3) (kf := 0) rfl inGX3 (by decide) w_1230)) (ok_t_n (ok_t_l (ok_iload_n dX3_placeSections_55 rfl)) (ok_t_l (ok_inv (run_V (y := 124) (n := 1) (ci := 8) dX3_placeSections_56 cz_124 gdG cc_124 ci_124 w_479 cm_124 cs_124 cd_124 cl_124 rfl rfl))))))))) (ok_t_n (ok_t_n (ok_t_n (ok_t_n (ok_t_n (ok_t_l (ok_inv (run_SN (y := 197) (n := 2) dX3_placeSections_59 cz_197 gdG cc_197 ci_197 nst_11 cm_197 cd_197 cl_197))) (ok_t_l (ok_iastore dX3_placeSections_62))) (ok_t_n (ok_t_l (ok_aload_n dX3_placeSections_63 rfl)) (ok_t_l (ok_getfield dX3_placeSections_64 (ci := 3) (kf := 7) rfl inGX3 (by decide) w_1237)))) (ok_t_n (ok_t_n (ok_t_l (ok_iload_n dX3_placeSections_67 rfl)) (ok_t_l (ok_aload_n dX3_placeSections_68 rfl))) (ok_t_n (ok_t_l (ok_iload_n dX3_placeSections_69 rfl)) (ok_t_l (ok_bipush dX3_placeSections_70 rfl))))) (ok_t_n (ok_t_n (ok_t_n (ok_t_l (ok_inv (run_V (y := 37) (n := 2) (ci := 3) dX3_placeSections_72 cz_37 gdG cc_37 ci_37 w_486 cm_37 cs_37 cd_37 cl_37 rfl rfl))) (ok_t_l (ok_iastore dX3_placeSections_75))) (ok_t_n (ok_t_l (ok_aload_n dX3_placeSections_76 rfl)) (ok_t_l (ok_dup dX3_placeSections_77)))) (ok_t_n (ok_t_n (ok_t_l (ok_getfield dX3_placeSections_78 (ci := 3) (kf := 12) rfl inGX3 (by decide) w_1242)) (ok_t_l (ok_aload_n dX3_placeSections_81 rfl))) (ok_t_n (ok_t_l (ok_getfield dX3_placeSections_82 (ci := 3) (kf := 7) rfl inGX3 (by decide) w_1237)) (ok_t_l (ok_iload_n dX3_placeSections_85 rfl)))))) (ok_t_n (ok_t_n (ok_t_n (ok_t_n (ok_t_l (ok_iaload dX3_placeSections_86)) (ok_t_l (ok_iadd dX3_placeSections_87))) (ok_t_n (ok_t_l (ok_putfield dX3_placeSections_88 (ci := 3) (kf := 12) rfl inGX3 (by decide) tyX3_ok nmX3 rfl w_1242 rfl)) (ok_t_l (ok_aload_n dX3_placeSections_91 rfl)))) (ok_t_n (ok_t_n (ok_t_l (ok_aload_n dX3_placeSections_92 rfl)) (ok_t_l (ok_getfield dX3_placeSections_93 (ci := 3) (kf := 6) rfl inGX3 (by decide) w_1236))) (ok_t_n (ok_t_l (ok_iload_n dX3_placeSections_96 rfl)) (ok_t_l (ok_iaload dX3_placeSections_97))))) (ok_t_n (ok_t_n (ok_t_n (ok_t_l (ok_aload_n dX3_placeSections_98 rfl)) (ok_t_l (ok_getfield dX3_placeSections_99 (ci := 3) (kf := 7) rfl inGX3 (by decide) w_1237))) (ok_t_n (ok_t_l (ok_iload_n dX3_placeSections_102 rfl)) (ok_t_l (ok_iaload dX3_placeSections_103)))) (ok_t_n (ok_t_n (ok_t_l (ok_iadd dX3_placeSections_104)) (ok_t_l (ok_putfield dX3_placeSections_105 (ci := 3) (kf := 11) rfl inGX3 (by decide) tyX3_ok nmX3 rfl w_1241 rfl))) (ok_t_n (ok_t_l (ok_iinc dX3_placeSections_108 rfl)) (ok_t_n (ok_t_l (ok_goto dX3_placeSections_111 rfl)) (ok_t_l (ok_vreturn dX3_placeSections_114)))))))))
theorem dX3_placeCommons_0 : decode cX3_placeCommons 0 = .ok (.iconst 0, 1) := by decide +kernel
theorem dX3_placeCommons_1 : decode cX3_placeCommons 1 = .ok (.istore_n 1, 1) := by decide +kernel
theorem dX3_placeCommons_2 : decode cX3_placeCommons 2 = .ok (.iload_n 1, 1) := by decide +kernel
theorem dX3_placeCommons_3 : decode cX3_placeCommons 3 = .ok (.bipush 20, 2) := by decide +kernel
theorem dX3_placeCommons_5 : decode cX3_placeCommons 5 = .ok (.if_icmp .ge 87, 3) := by decide +kernel
theorem dX3_placeCommons_8 : decode cX3_placeCommons 8 = .ok (.aload_n 0, 1) := by decide +kernel
theorem dX3_placeCommons_9 : decode cX3_placeCommons 9 = .ok (.getfield 52, 3) := by decide +kernel
theorem dX3_placeCommons_12 : decode cX3_placeCommons 12 = .ok (.iload_n 1, 1) := by decide +kernel
theorem dX3_placeCommons_13 : decode cX3_placeCommons 13 = .ok (.invokevirtual 119, 3) := by decide +kernel
theorem dX3_placeCommons_16 : decode cX3_placeCommons 16 = .ok (.ifCond .eq 63, 3) := by decide +kernel
theorem dX3_placeCommons_19 : decode cX3_placeCommons 19 = .ok (.aload_n 0, 1) := by decide +kernel
theorem dX3_placeCommons_20 : decode cX3_placeCommons 20 = .ok (.getfield 31, 3) := by decide +kernel
theorem dX3_placeCommons_23 : decode cX3_placeCommons 23 = .ok (.iload_n 1, 1) := by decide +kernel
theorem dX3_placeCommons_24 : decode cX3_placeCommons 24 = .ok (.aload_n 0, 1) := by decide +kernel
theorem dX3_placeCommons_25 : decode cX3_placeCommons 25 = .ok (.getfield 34, 3) := by decide +kernel
theorem dX3_placeCommons_28 : decode cX3_placeCommons 28 = .ok (.aload_n 0, 1) := by decide +kernel
theorem dX3_placeCommons_29 : decode cX3_placeCommons 29 = .ok (.getfield 48, 3) := by decide +kernel
theorem dX3_placeCommons_32 : decode cX3_placeCommons 32 = .ok (.iload_n 1, 1) := by decide +kernel
theorem dX3_placeCommons_33 : decode cX3_placeCommons 33 = .ok (.invokevirtual 122, 3) := by decide +kernel
theorem dX3_placeCommons_36 : decode cX3_placeCommons 36 = .ok (.invokestatic 113, 3) := by decide +kernel
theorem dX3_placeCommons_39 : decode cX3_placeCommons 39 = .ok (.iastore, 1) := by decide +kernel
theorem dX3_placeCommons_40 : decode cX3_placeCommons 40 = .ok (.aload_n 0, 1) := by decide +kernel
theorem dX3_placeCommons_41 : decode cX3_placeCommons 41 = .ok (.dup, 1) := by decide +kernel
theorem dX3_placeCommons_42 : decode cX3_placeCommons 42 = .ok (.getfield 37, 3) := by decide +kernel
theorem dX3_placeCommons_45 : decode cX3_placeCommons 45 = .ok (.aload_n 0, 1) := by decide +kernel
theorem dX3_placeCommons_46 : decode cX3_placeCommons 46 = .ok (.getfield 48, 3) := by decide +kernel
theorem dX3_placeCommons_49 : decode cX3_placeCommons 49 = .ok (.iload_n 1, 1) := by decide +kernel
theorem dX3_placeCommons_50 : decode cX3_placeCommons 50 = .ok (.invokevirtual 125, 3) := by decide +kernel
theorem dX3_placeCommons_53 : decode cX3_placeCommons 53 = .ok (.iadd, 1) := by decide +kernel
theorem dX3_placeCommons_54 : decode cX3_placeCommons 54 = .ok (.putfield 37, 3) := by decide +kernel
theorem dX3_placeCommons_57 : decode cX3_placeCommons 57 = .ok (.aload_n 0, 1) := by decide +kernel
theorem dX3_placeCommons_58 : decode cX3_placeCommons 58 = .ok (.aload_n 0, 1) := by decide +kernel
theorem dX3_placeCommons_59 : decode cX3_placeCommons 59 = .ok (.getfield 31, 3) := by decide +kernel
theorem dX3_placeCommons_62 : decode cX3_placeCommons 62 = .ok (.iload_n 1, 1) := by decide +kernel
theorem dX3_placeCommons_63 : decode cX3_placeCommons 63 = .ok (.iaload, 1) := by decide +kernel
theorem dX3_placeCommons_64 : decode cX3_placeCommons 64 = .ok (.aload_n 0, 1) := by decide +kernel
theorem dX3_placeCommons_65 : decode cX3_placeCommons 65 = .ok (.getfield 48, 3) := by decide +kernel
theorem dX3_placeCommons_68 : decode cX3_placeCommons 68 = .ok (.iload_n 1, 1) := by decide +kernel
theorem dX3_placeCommons_69 : decode cX3_placeCommons 69 = .ok (.invokevirtual 125, 3) := by decide +kernel
theorem dX3_placeCommons_72 : decode cX3_placeCommons 72 = .ok (.iadd, 1) := by decide +kernel
theorem dX3_placeCommons_73 : decode cX3_placeCommons 73 = .ok (.putfield 34, 3) := by decide +kernel
theorem dX3_placeCommons_76 : decode cX3_placeCommons 76 = .ok (.goto 10, 3) := by decide +kernel
theorem dX3_placeCommons_79 : decode cX3_placeCommons 79 = .ok (.aload_n 0, 1) := by decide +kernel
theorem dX3_placeCommons_80 : decode cX3_placeCommons 80 = .ok (.getfield 31, 3) := by decide +kernel
theorem dX3_placeCommons_83 : decode cX3_placeCommons 83 = .ok (.iload_n 1, 1) := by decide +kernel
theorem dX3_placeCommons_84 : decode cX3_placeCommons 84 = .ok (.iconst (-1), 1) := by decide +kernel
theorem dX3_placeCommons_85 : decode cX3_placeCommons 85 = .ok (.iastore, 1) := by decide +kernel
theorem dX3_placeCommons_86 : decode cX3_placeCommons 86 = .ok (.iinc 1 1, 3) := by decide +kernel
theorem dX3_placeCommons_89 : decode cX3_placeCommons 89 = .ok (.goto (-87), 3) := by decide +kernel
theorem dX3_placeCommons_92 : decode cX3_placeCommons 92 = .ok (.return_, 1) := by decide +kernel
def g_X3_placeCommons : Nat → EA := (t_n 46 (t_n 23 (t_n 9 (t_n 3 (t_n 1 (t_l 0 (a_push 1 (.int 0))) (t_n 2 (t_l 1 (a_istore 2 1 1)) (t_l 2 (a_iload 1 1)))) (t_n 5 (t_l 3 (a_push 2 (.int 20))) (t_n 8 (t_l 5 (a_ic 92 (fun x y => decide (y ≤ x)))) (t_l 8 (a_aload 1 0))))) (t_n 16 (t_n 12 (t_l 9 (a_getf 3 3)) (t_n 13 (t_l 12 (a_iload 1 1)) (t_l 13 (a_inv true 106 2 (some 7))))) (t_n 19 (t_l 16 (a_if 79 (fun x => decide (x = 0)))) (t_n 20 (t_l 19 (a_aload 1 0)) (t_l 20 (a_getf 3 10)))))) (t_n 33 (t_n 28 (t_n 24 (t_l 23 (a_iload 1 1)) (t_n 25 (t_l 24 (a_aload 1 0)) (t_l 25 (a_getf 3 11)))) (t_n 29 (t_l 28 (a_aload 1 0)) (t_n 32 (t_l 29 (a_getf 3 2)) (t_l 32 (a_iload 1 1))))) (t_n 40 (t_n 36 (t_l 33 (a_inv true 146 2 (some 9))) (t_n 39 (t_l 36 (a_inv false 197 2 none)) (t_l 39 (a_ist 0)))) (t_n 42 (t_n 41 (t_l 40 (a_aload 1 0)) (t_l 41 a_dup)) (t_n 45 (t_l 42 (a_getf 3 12)) (t_l 45 (a_aload 1 0))))))) (t_n 68 (t_n 58 (t_n 53 (t_n 49 (t_l 46 (a_getf 3 2)) (t_n 50 (t_l 49 (a_iload 1 1)) (t_l 50 (a_inv true 145 2 (some 9))))) (t_n 54 (t_l 53 (a_ii 1 (fun x y => x + y))) (t_n 57 (t_l 54 (a_putf 0 3 12)) (t_l 57 (a_aload 1 0))))) (t_n 63 (t_n 59 (t_l 58 (a_aload 1 0)) (t_n 62 (t_l 59 (a_getf 3 10)) (t_l 62 (a_iload 1 1)))) (t_n 64 (t_l 63 (a_ild 0)) (t_n 65 (t_l 64 (a_aload 1 0)) (t_l 65 (a_getf 3 2)))))) (t_n 80 (t_n 73 (t_n 69 (t_l 68 (a_iload 1 1)) (t_n 72 (t_l 69 (a_inv true 145 2 (some 9))) (t_l 72 (a_ii 1 (fun x y => x + y))))) (t_n 76 (t_l 73 (a_putf 0 3 11)) (t_n 79 (t_l 76 (a_goto 86)) (t_l 79 (a_aload 1 0))))) (t_n 85 (t_n 83 (t_l 80 (a_getf 3 10)) (t_n 84 (t_l 83 (a_iload 1 1)) (t_l 84 (a_push 1 (.int (-1)))))) (t_n 89 (t_n 86 (t_l 85 (a_ist 0)) (t_l 86 (a_iinc 2 1 1))) (t_n 92 (t_l 89 (a_goto 2)) (t_l 92 a_vret)))))))
set_option maxRecDepth 100000 in
theorem k_X3_placeCommons (sc : Nat × (Nat → Int32)) (d : Nat) : ∀ pc, ev_Ok cX3_placeCommons 2 [] RX3 lw_g lw_n (lw_q sc) vwCl false (ev_CO mt lw_g lw_n (lw_q sc) vwCl d) pc (g_X3_placeCommons pc) := (ok_t_n (ok_t_n (ok_t_n (ok_t_n (ok_t_n (ok_t_l (ok_iconst dX3_placeCommons_0 rfl)) (ok_t_n (ok_t_l (ok_istore_n dX3_placeCommons_1 rfl)) (ok_t_l (ok_iload_n dX3_placeCommons_2 rfl)))) (ok_t_n (ok_t_l (ok_bipush dX3_placeCommons_3 rfl)) (ok_t_n (ok_t_l (ok_icmp_ge dX3_placeCommons_5 rfl)) (ok_t_l (ok_aload_n dX3_placeCommons_8 rfl))))) (ok_t_n (ok_t_n (ok_t_l (ok_getfield dX3_placeCommons_9 (ci := 3) (kf := 3) rfl inGX3 (by decide) w_1233)) (ok_t_n (ok_t_l (ok_iload_n dX3_placeCommons_12 rfl)) (ok_t_l (ok_inv (run_V (y := 106) (n := 1) (ci := 7) dX3_placeCommons_13 cz_106 gdG cc_106 ci_106 w_498 cm_106 cs_106 cd_106 cl_106 rfl rfl))))) (ok_t_n (ok_t_l (ok_if_eq dX3_placeCommons_16 rfl)) (ok_t_n (ok_t_l (ok_aload_n dX3_placeCommons_19 rfl)) (ok_t_l (ok_getfield dX3_placeCommons_20 (ci := 3) (kf := 10) rfl inGX3 (by decide) w_1240)))))) (ok_t_n (ok_t_n (ok_t_n (ok_t_l (ok_iload_n dX3_placeCommons_23 rfl)) (ok_t_n (ok_t_l (ok_aload_n dX3_placeCommons_24 rfl)) (ok_t_l (ok_getfield dX3_placeCommons_25 (ci := 3) (kf := 11) rfl inGX3 (by decide) w_1241)))) (ok_t_n (ok_t_l (ok_aload_n dX3_placeCommons_28 rfl)) (ok_t_n (ok_t_l (ok_getfield dX3_placeCommons_29 (ci := 3) (kf := 2) rfl inGX3 (by decide) w_1232)) (ok_t_l (ok_iload_n dX3_placeCommons_32 rfl))))) (ok_t_n (ok_t_n (ok_t_l (ok_inv (run_V (y := 146) (n := 1) (ci := 9) dX3_placeCommons_33 cz_146 gdG cc_146 ci_146 w_502 cm_146 cs_146 cd_146 cl_146 rfl rfl))) (ok_t_n (ok_t_l (ok_inv (run_SN (y := 197) (n := 2) dX3_placeCommons_36 cz_197 gdG cc_197 ci_197 nst_11 cm_197 cd_197 cl_197))) (ok_t_l (ok_iastore dX3_placeCommons_39)))) (ok_t_n (ok_t_n (ok_t_l (ok_aload_n dX3_placeCommons_40 rfl)) (ok_t_l (ok_dup dX3_placeCommons_41))) (ok_t_n (ok_t_l (ok_getfield dX3_placeCommons_42 (ci := 3) (kf := 12) rfl inGX3 (by decide) w_1242)) (ok_t_l (ok_aload_n dX3_placeCommons_45 rfl))))))) (ok_t_n (ok_t_n (ok_t_n (ok_t_n (ok_t_l (ok_getfield dX3_placeCommons_46 (ci := 3) (kf := 2) rfl inGX3 (by decide) w_1232)) (ok_t_n (ok_t_l (ok_iload_n dX3_placeCommons_49 rfl)) (ok_t_l (ok_inv (run_V (y := 145) (n := 1) (ci := 9) dX3_placeCommons_50 cz_145 gdG cc_145 ci_145 w_506 cm_145 cs_145 cd_145 cl_145 rfl rfl))))) (ok_t_n (ok_t_l (ok_iadd dX3_placeCommons_53)) (ok_t_n (ok_t_l (ok_putfield dX3_placeCommons_54 (ci := 3) (kf := 12) rfl inGX3 (by decide) tyX3_ok nmX3 rfl w_1242 rfl)) (ok_t_l (ok_aload_n dX3_placeCommons_57 rfl))))) (ok_t_n (ok_t_n (ok_t_l (ok_aload_n dX3_placeCommons_58 rfl)) (ok_t_n (ok_t_l (ok_getfield dX3_placeCommons_59 (ci := 3) (kf := 10) rfl inGX3 (by decide) w_1240)) (ok_t_l (ok_iload_n dX3_placeCommons_62 rfl)))) (ok_t_n (ok_t_l (ok_iaload dX3_placeCommons_63)) (ok_t_n (ok_t_l (ok_aload_n dX3_placeCommons_64 rfl)) (ok_t_l (ok_getfield dX3_placeCommons_65 (ci := 3) (kf := 2) rfl inGX3 (by decide) w_1232)))))) (ok_t_n (ok_t_n (ok_t_n (ok_t_l (ok_iload_n dX3_placeCommons_68 rfl)) (ok_t_n (ok_t_l (ok_inv (run_V (y := 145) (n := 1) (ci := 9) dX3_placeCommons_69 cz_145 gdG cc_145 ci_145 w_506 cm_145 cs_145 cd_145 cl_145 rfl rfl))) (ok_t_l (ok_iadd dX3_placeCommons_72)))) (ok_t_n (ok_t_l (ok_putfield dX3_placeCommons_73 (ci := 3) (kf := 11) rfl inGX3 (by decide) tyX3_ok nmX3 rfl w_1241 rfl)) (ok_t_n (ok_t_l (ok_goto dX3_placeCommons_76 rfl)) (ok_t_l (ok_aload_n dX3_placeCommons_79 rfl))))) (ok_t_n (ok_t_n (ok_t_l (ok_getfield dX3_placeCommons_80 (ci := 3) (kf := 10) rfl inGX3 (by decide) w_1240)) (ok_t_n (ok_t_l (ok_iload_n dX3_placeCommons_83 rfl)) (ok_t_l (ok_iconst dX3_placeCommons_84 rfl)))) (ok_t_n (ok_t_n (ok_t_l (ok_iastore dX3_placeCommons_85)) (ok_t_l (ok_iinc dX3_placeCommons_86 rfl))) (ok_t_n (ok_t_l (ok_goto dX3_placeCommons_89 rfl)) (ok_t_l (ok_vreturn dX3_placeCommons_92))))))))
theorem dX3_addressNames_0 : decode cX3_addressNames 0 = .ok (.iconst 0, 1) := by decide +kernel
theorem dX3_addressNames_1 : decode cX3_addressNames 1 = .ok (.istore_n 1, 1) := by decide +kernel
theorem dX3_addressNames_2 : decode cX3_addressNames 2 = .ok (.iload_n 1, 1) := by decide +kernel
theorem dX3_addressNames_3 : decode cX3_addressNames 3 = .ok (.bipush 20, 2) := by decide +kernel
theorem dX3_addressNames_5 : decode cX3_addressNames 5 = .ok (.if_icmp .ge 64, 3) := by decide +kernel
theorem dX3_addressNames_8 : decode cX3_addressNames 8 = .ok (.aload_n 0, 1) := by decide +kernel
theorem dX3_addressNames_9 : decode cX3_addressNames 9 = .ok (.getfield 48, 3) := by decide +kernel
theorem dX3_addressNames_12 : decode cX3_addressNames 12 = .ok (.iload_n 1, 1) := by decide +kernel
theorem dX3_addressNames_13 : decode cX3_addressNames 13 = .ok (.invokevirtual 127, 3) := by decide +kernel
theorem dX3_addressNames_16 : decode cX3_addressNames 16 = .ok (.istore_n 2, 1) := by decide +kernel
theorem dX3_addressNames_17 : decode cX3_addressNames 17 = .ok (.aload_n 0, 1) := by decide +kernel
theorem dX3_addressNames_18 : decode cX3_addressNames 18 = .ok (.getfield 52, 3) := by decide +kernel
theorem dX3_addressNames_21 : decode cX3_addressNames 21 = .ok (.iload_n 2, 1) := by decide +kernel
theorem dX3_addressNames_22 : decode cX3_addressNames 22 = .ok (.invokevirtual 56, 3) := by decide +kernel
theorem dX3_addressNames_25 : decode cX3_addressNames 25 = .ok (.ifCond .eq 38, 3) := by decide +kernel
theorem dX3_addressNames_28 : decode cX3_addressNames 28 = .ok (.iload_n 2, 1) := by decide +kernel
theorem dX3_addressNames_29 : decode cX3_addressNames 29 = .ok (.bipush 24, 2) := by decide +kernel
theorem dX3_addressNames_31 : decode cX3_addressNames 31 = .ok (.invokestatic 62, 3) := by decide +kernel
theorem dX3_addressNames_34 : decode cX3_addressNames 34 = .ok (.ifCond .eq 29, 3) := by decide +kernel
theorem dX3_addressNames_37 : decode cX3_addressNames 37 = .ok (.aload_n 0, 1) := by decide +kernel
theorem dX3_addressNames_38 : decode cX3_addressNames 38 = .ok (.getfield 31, 3) := by decide +kernel
theorem dX3_addressNames_41 : decode cX3_addressNames 41 = .ok (.iload_n 1, 1) := by decide +kernel
theorem dX3_addressNames_42 : decode cX3_addressNames 42 = .ok (.aload_n 0, 1) := by decide +kernel
theorem dX3_addressNames_43 : decode cX3_addressNames 43 = .ok (.getfield 19, 3) := by decide +kernel
theorem dX3_addressNames_46 : decode cX3_addressNames 46 = .ok (.iload_n 2, 1) := by decide +kernel
theorem dX3_addressNames_47 : decode cX3_addressNames 47 = .ok (.iaload, 1) := by decide +kernel
theorem dX3_addressNames_48 : decode cX3_addressNames 48 = .ok (.aload_n 0, 1) := by decide +kernel
theorem dX3_addressNames_49 : decode cX3_addressNames 49 = .ok (.iload_n 2, 1) := by decide +kernel
theorem dX3_addressNames_50 : decode cX3_addressNames 50 = .ok (.aload_n 0, 1) := by decide +kernel
theorem dX3_addressNames_51 : decode cX3_addressNames 51 = .ok (.getfield 48, 3) := by decide +kernel
theorem dX3_addressNames_54 : decode cX3_addressNames 54 = .ok (.iload_n 1, 1) := by decide +kernel
theorem dX3_addressNames_55 : decode cX3_addressNames 55 = .ok (.invokevirtual 130, 3) := by decide +kernel
theorem dX3_addressNames_58 : decode cX3_addressNames 58 = .ok (.invokevirtual 116, 3) := by decide +kernel
theorem dX3_addressNames_61 : decode cX3_addressNames 61 = .ok (.iadd, 1) := by decide +kernel
theorem dX3_addressNames_62 : decode cX3_addressNames 62 = .ok (.iastore, 1) := by decide +kernel
theorem dX3_addressNames_63 : decode cX3_addressNames 63 = .ok (.iinc 1 1, 3) := by decide +kernel
theorem dX3_addressNames_66 : decode cX3_addressNames 66 = .ok (.goto (-64), 3) := by decide +kernel
theorem dX3_addressNames_69 : decode cX3_addressNames 69 = .ok (.return_, 1) := by decide +kernel
def g_X3_addressNames : Nat → EA := (t_n 37 (t_n 16 (t_n 5 (t_n 2 (t_n 1 (t_l 0 (a_push 1 (.int 0))) (t_l 1 (a_istore 3 1 1))) (t_n 3 (t_l 2 (a_iload 1 1)) (t_l 3 (a_push 2 (.int 20))))) (t_n 9 (t_n 8 (t_l 5 (a_ic 69 (fun x y => decide (y ≤ x)))) (t_l 8 (a_aload 1 0))) (t_n 12 (t_l 9 (a_getf 3 2)) (t_n 13 (t_l 12 (a_iload 1 1)) (t_l 13 (a_inv true 142 2 (some 9))))))) (t_n 25 (t_n 18 (t_n 17 (t_l 16 (a_istore 3 1 2)) (t_l 17 (a_aload 1 0))) (t_n 21 (t_l 18 (a_getf 3 3)) (t_n 22 (t_l 21 (a_iload 1 2)) (t_l 22 (a_inv true 105 2 (some 7)))))) (t_n 29 (t_n 28 (t_l 25 (a_if 63 (fun x => decide (x = 0)))) (t_l 28 (a_iload 1 2))) (t_n 31 (t_l 29 (a_push 2 (.int 24))) (t_n 34 (t_l 31 (a_inv false 192 2 none)) (t_l 34 (a_if 63 (fun x => decide (x = 0))))))))) (t_n 50 (t_n 43 (t_n 41 (t_n 38 (t_l 37 (a_aload 1 0)) (t_l 38 (a_getf 3 10))) (t_n 42 (t_l 41 (a_iload 1 1)) (t_l 42 (a_aload 1 0)))) (t_n 47 (t_n 46 (t_l 43 (a_getf 3 6)) (t_l 46 (a_iload 1 2))) (t_n 48 (t_l 47 (a_ild 0)) (t_n 49 (t_l 48 (a_aload 1 0)) (t_l 49 (a_iload 1 2)))))) (t_n 61 (t_n 54 (t_n 51 (t_l 50 (a_aload 1 0)) (t_l 51 (a_getf 3 2))) (t_n 55 (t_l 54 (a_iload 1 1)) (t_n 58 (t_l 55 (a_inv true 143 2 (some 9))) (t_l 58 (a_inv true 37 3 (some 3)))))) (t_n 63 (t_n 62 (t_l 61 (a_ii 1 (fun x y => x + y))) (t_l 62 (a_ist 0))) (t_n 66 (t_l 63 (a_iinc 3 1 1)) (t_n 69 (t_l 66 (a_goto 2)) (t_l 69 a_vret)))))))
set_option maxRecDepth 100000 in
theorem k_X3_addressNames (sc : Nat × (Nat → Int32)) (d : Nat) : ∀ pc, ev_Ok cX3_addressNames 3 [] RX3 lw_g lw_n (lw_q sc) vwCl false (ev_CO mt lw_g lw_n (lw_q sc) vwCl d) pc (g_X3_addressNames pc) := (ok_t_n (ok_t_n (ok_t_n (ok_t_n (ok_t_n (ok_t_l (ok_iconst dX3_addressNames_0 rfl)) (ok_t_l (ok_istore_n dX3_addressNames_1 rfl))) (ok_t_n (ok_t_l (ok_iload_n dX3_addressNames_2 rfl)) (ok_t_l (ok_bipush dX3_addressNames_3 rfl)))) (ok_t_n (ok_t_n (ok_t_l (ok_icmp_ge dX3_addressNames_5 rfl)) (ok_t_l (ok_aload_n dX3_addressNames_8 rfl))) (ok_t_n (ok_t_l (ok_getfield dX3_addressNames_9 (ci := 3) (kf := 2) rfl inGX3 (by decide) w_1232)) (ok_t_n (ok_t_l (ok_iload_n dX3_addressNames_12 rfl)) (ok_t_l (ok_inv (run_V (y := 142) (n := 1) (ci := 9) dX3_addressNames_13 cz_142 gdG cc_142 ci_142 w_514 cm_142 cs_142 cd_142 cl_142 rfl rfl))))))) (ok_t_n (ok_t_n (ok_t_n (ok_t_l (ok_istore_n dX3_addressNames_16 rfl)) (ok_t_l (ok_aload_n dX3_addressNames_17 rfl))) (ok_t_n (ok_t_l (ok_getfield dX3_addressNames_18 (ci := 3) (kf := 3) rfl inGX3 (by decide) w_1233)) (ok_t_n (ok_t_l (ok_iload_n dX3_addressNames_21 rfl)) (ok_t_l (ok_inv (run_V (y := 105) (n := 1) (ci := 7) dX3_addressNames_22 cz_105 gdG cc_105 ci_105 w_461 cm_105 cs_105 cd_105 cl_105 rfl rfl)))))) (ok_t_n (ok_t_n (ok_t_l (ok_if_eq dX3_addressNames_25 rfl)) (ok_t_l (ok_iload_n dX3_addressNames_28 rfl))) (ok_t_n (ok_t_l (ok_bipush dX3_addressNames_29 rfl)) (ok_t_n (ok_t_l (ok_inv (run_SN (y := 192) (n := 2) dX3_addressNames_31 cz_192 gdG cc_192 ci_192 nst_10 cm_192 cd_192 cl_192))) (ok_t_l (ok_if_eq dX3_addressNames_34 rfl))))))) (ok_t_n (ok_t_n (ok_t_n (ok_t_n (ok_t_l (ok_aload_n dX3_addressNames_37 rfl)) (ok_t_l (ok_getfield dX3_addressNames_38 (ci := 3) (kf := 10) rfl inGX3 (by decide) w_1240))) (ok_t_n (ok_t_l (ok_iload_n dX3_addressNames_41 rfl)) (ok_t_l (ok_aload_n dX3_addressNames_42 rfl)))) (ok_t_n (ok_t_n (ok_t_l (ok_getfield dX3_addressNames_43 (ci := 3) (kf := 6) rfl inGX3 (by decide) w_1236)) (ok_t_l (ok_iload_n dX3_addressNames_46 rfl))) (ok_t_n (ok_t_l (ok_iaload dX3_addressNames_47)) (ok_t_n (ok_t_l (ok_aload_n dX3_addressNames_48 rfl)) (ok_t_l (ok_iload_n dX3_addressNames_49 rfl)))))) (ok_t_n (ok_t_n (ok_t_n (ok_t_l (ok_aload_n dX3_addressNames_50 rfl)) (ok_t_l (ok_getfield dX3_addressNames_51 (ci := 3) (kf := 2) rfl inGX3 (by decide) w_1232))) (ok_t_n (ok_t_l (ok_iload_n dX3_addressNames_54 rfl)) (ok_t_n (ok_t_l (ok_inv (run_V (y := 143) (n := 1) (ci := 9) dX3_addressNames_55 cz_143 gdG cc_143 ci_143 w_515 cm_143 cs_143 cd_143 cl_143 rfl rfl))) (ok_t_l (ok_inv (run_V (y := 37) (n := 2) (ci := 3) dX3_addressNames_58 cz_37 gdG cc_37 ci_37 w_486 cm_37 cs_37 cd_37 cl_37 rfl rfl)))))) (ok_t_n (ok_t_n (ok_t_l (ok_iadd dX3_addressNames_61)) (ok_t_l (ok_iastore dX3_addressNames_62))) (ok_t_n (ok_t_l (ok_iinc dX3_addressNames_63 rfl)) (ok_t_n (ok_t_l (ok_goto dX3_addressNames_66 rfl)) (ok_t_l (ok_vreturn dX3_addressNames_69))))))))
theorem dX3_wordsAhead_0 : decode cX3_wordsAhead 0 = .ok (.iconst 0, 1) := by decide +kernel
theorem dX3_wordsAhead_1 : decode cX3_wordsAhead 1 = .ok (.istore_n 3, 1) := by decide +kernel
theorem dX3_wordsAhead_2 : decode cX3_wordsAhead 2 = .ok (.iconst 0, 1) := by decide +kernel
theorem dX3_wordsAhead_3 : decode cX3_wordsAhead 3 = .ok (.istore 4, 2) := by decide +kernel
theorem dX3_wordsAhead_5 : decode cX3_wordsAhead 5 = .ok (.iload 4, 2) := by decide +kernel
theorem dX3_wordsAhead_7 : decode cX3_wordsAhead 7 = .ok (.iload_n 2, 1) := by decide +kernel
theorem dX3_wordsAhead_8 : decode cX3_wordsAhead 8 = .ok (.if_icmp .ge 26, 3) := by decide +kernel
theorem dX3_wordsAhead_11 : decode cX3_wordsAhead 11 = .ok (.iload 4, 2) := by decide +kernel
theorem dX3_wordsAhead_13 : decode cX3_wordsAhead 13 = .ok (.bipush 8, 2) := by decide +kernel
theorem dX3_wordsAhead_15 : decode cX3_wordsAhead 15 = .ok (.if_icmp .ge 19, 3) := by decide +kernel
theorem dX3_wordsAhead_18 : decode cX3_wordsAhead 18 = .ok (.iload_n 3, 1) := by decide +kernel
theorem dX3_wordsAhead_19 : decode cX3_wordsAhead 19 = .ok (.aload_n 0, 1) := by decide +kernel
theorem dX3_wordsAhead_20 : decode cX3_wordsAhead 20 = .ok (.iload_n 1, 1) := by decide +kernel
theorem dX3_wordsAhead_21 : decode cX3_wordsAhead 21 = .ok (.iload 4, 2) := by decide +kernel
theorem dX3_wordsAhead_23 : decode cX3_wordsAhead 23 = .ok (.invokevirtual 133, 3) := by decide +kernel
theorem dX3_wordsAhead_26 : decode cX3_wordsAhead 26 = .ok (.iadd, 1) := by decide +kernel
theorem dX3_wordsAhead_27 : decode cX3_wordsAhead 27 = .ok (.istore_n 3, 1) := by decide +kernel
theorem dX3_wordsAhead_28 : decode cX3_wordsAhead 28 = .ok (.iinc 4 1, 3) := by decide +kernel
theorem dX3_wordsAhead_31 : decode cX3_wordsAhead 31 = .ok (.goto (-26), 3) := by decide +kernel
theorem dX3_wordsAhead_34 : decode cX3_wordsAhead 34 = .ok (.iload_n 3, 1) := by decide +kernel
theorem dX3_wordsAhead_35 : decode cX3_wordsAhead 35 = .ok (.ireturn, 1) := by decide +kernel
def g_X3_wordsAhead : Nat → EA := (t_n 18 (t_n 7 (t_n 2 (t_n 1 (t_l 0 (a_push 1 (.int 0))) (t_l 1 (a_istore 5 1 3))) (t_n 3 (t_l 2 (a_push 1 (.int 0))) (t_n 5 (t_l 3 (a_istore 5 2 4)) (t_l 5 (a_iload 2 4))))) (t_n 11 (t_n 8 (t_l 7 (a_iload 1 2)) (t_l 8 (a_ic 34 (fun x y => decide (y ≤ x))))) (t_n 13 (t_l 11 (a_iload 2 4)) (t_n 15 (t_l 13 (a_push 2 (.int 8))) (t_l 15 (a_ic 34 (fun x y => decide (y ≤ x)))))))) (t_n 26 (t_n 20 (t_n 19 (t_l 18 (a_iload 1 3)) (t_l 19 (a_aload 1 0))) (t_n 21 (t_l 20 (a_iload 1 1)) (t_n 23 (t_l 21 (a_iload 2 4)) (t_l 23 (a_inv true 30 3 (some 3)))))) (t_n 31 (t_n 27 (t_l 26 (a_ii 1 (fun x y => x + y))) (t_n 28 (t_l 27 (a_istore 5 1 3)) (t_l 28 (a_iinc 5 4 1)))) (t_n 34 (t_l 31 (a_goto 5)) (t_n 35 (t_l 34 (a_iload 1 3)) (t_l 35 a_iret))))))
set_option maxRecDepth 100000 in
theorem k_X3_wordsAhead (sc : Nat × (Nat → Int32)) (d : Nat) : ∀ pc, ev_Ok cX3_wordsAhead 5 [] RX3 lw_g lw_n (lw_q sc) vwCl false (ev_CO mt lw_g lw_n (lw_q sc) vwCl d) pc (g_X3_wordsAhead pc) := (ok_t_n (ok_t_n (ok_t_n (ok_t_n (ok_t_l (ok_iconst dX3_wordsAhead_0 rfl)) (ok_t_l (ok_istore_n dX3_wordsAhead_1 rfl))) (ok_t_n (ok_t_l (ok_iconst dX3_wordsAhead_2 rfl)) (ok_t_n (ok_t_l (ok_istore dX3_wordsAhead_3)) (ok_t_l (ok_iload dX3_wordsAhead_5))))) (ok_t_n (ok_t_n (ok_t_l (ok_iload_n dX3_wordsAhead_7 rfl)) (ok_t_l (ok_icmp_ge dX3_wordsAhead_8 rfl))) (ok_t_n (ok_t_l (ok_iload dX3_wordsAhead_11)) (ok_t_n (ok_t_l (ok_bipush dX3_wordsAhead_13 rfl)) (ok_t_l (ok_icmp_ge dX3_wordsAhead_15 rfl)))))) (ok_t_n (ok_t_n (ok_t_n (ok_t_l (ok_iload_n dX3_wordsAhead_18 rfl)) (ok_t_l (ok_aload_n dX3_wordsAhead_19 rfl))) (ok_t_n (ok_t_l (ok_iload_n dX3_wordsAhead_20 rfl)) (ok_t_n (ok_t_l (ok_iload dX3_wordsAhead_21)) (ok_t_l (ok_inv (run_V (y := 30) (n := 2) (ci := 3) dX3_wordsAhead_23 cz_30 gdG cc_30 ci_30 w_490 cm_30 cs_30 cd_30 cl_30 rfl rfl)))))) (ok_t_n (ok_t_n (ok_t_l (ok_iadd dX3_wordsAhead_26)) (ok_t_n (ok_t_l (ok_istore_n dX3_wordsAhead_27 rfl)) (ok_t_l (ok_iinc dX3_wordsAhead_28 rfl)))) (ok_t_n (ok_t_l (ok_goto dX3_wordsAhead_31 rfl)) (ok_t_n (ok_t_l (ok_iload_n dX3_wordsAhead_34 rfl)) (ok_t_l (ok_ireturn dX3_wordsAhead_35)))))))
theorem dX3_lengthenAll_0 : decode cX3_lengthenAll 0 = .ok (.iconst 0, 1) := by decide +kernel
theorem dX3_lengthenAll_1 : decode cX3_lengthenAll 1 = .ok (.istore_n 2, 1) := by decide +kernel
theorem dX3_lengthenAll_2 : decode cX3_lengthenAll 2 = .ok (.iconst 0, 1) := by decide +kernel
theorem dX3_lengthenAll_3 : decode cX3_lengthenAll 3 = .ok (.istore_n 3, 1) := by decide +kernel
theorem dX3_lengthenAll_4 : decode cX3_lengthenAll 4 = .ok (.iload_n 3, 1) := by decide +kernel
theorem dX3_lengthenAll_5 : decode cX3_lengthenAll 5 = .ok (.aload_n 0, 1) := by decide +kernel
theorem dX3_lengthenAll_6 : decode cX3_lengthenAll 6 = .ok (.getfield 15, 3) := by decide +kernel
theorem dX3_lengthenAll_9 : decode cX3_lengthenAll 9 = .ok (.if_icmp .ge 31, 3) := by decide +kernel
theorem dX3_lengthenAll_12 : decode cX3_lengthenAll 12 = .ok (.iload_n 3, 1) := by decide +kernel
theorem dX3_lengthenAll_13 : decode cX3_lengthenAll 13 = .ok (.bipush 24, 2) := by decide +kernel
theorem dX3_lengthenAll_15 : decode cX3_lengthenAll 15 = .ok (.if_icmp .ge 25, 3) := by decide +kernel
theorem dX3_lengthenAll_18 : decode cX3_lengthenAll 18 = .ok (.aload_n 0, 1) := by decide +kernel
theorem dX3_lengthenAll_19 : decode cX3_lengthenAll 19 = .ok (.aload_n 0, 1) := by decide +kernel
theorem dX3_lengthenAll_20 : decode cX3_lengthenAll 20 = .ok (.getfield 9, 3) := by decide +kernel
theorem dX3_lengthenAll_23 : decode cX3_lengthenAll 23 = .ok (.iload_n 3, 1) := by decide +kernel
theorem dX3_lengthenAll_24 : decode cX3_lengthenAll 24 = .ok (.iaload, 1) := by decide +kernel
theorem dX3_lengthenAll_25 : decode cX3_lengthenAll 25 = .ok (.iload_n 1, 1) := by decide +kernel
theorem dX3_lengthenAll_26 : decode cX3_lengthenAll 26 = .ok (.invokevirtual 135, 3) := by decide +kernel
theorem dX3_lengthenAll_29 : decode cX3_lengthenAll 29 = .ok (.ifCond .eq 5, 3) := by decide +kernel
theorem dX3_lengthenAll_32 : decode cX3_lengthenAll 32 = .ok (.iconst 1, 1) := by decide +kernel
theorem dX3_lengthenAll_33 : decode cX3_lengthenAll 33 = .ok (.istore_n 2, 1) := by decide +kernel
theorem dX3_lengthenAll_34 : decode cX3_lengthenAll 34 = .ok (.iinc 3 1, 3) := by decide +kernel
theorem dX3_lengthenAll_37 : decode cX3_lengthenAll 37 = .ok (.goto (-33), 3) := by decide +kernel
theorem dX3_lengthenAll_40 : decode cX3_lengthenAll 40 = .ok (.iload_n 2, 1) := by decide +kernel
theorem dX3_lengthenAll_41 : decode cX3_lengthenAll 41 = .ok (.ireturn, 1) := by decide +kernel
def g_X3_lengthenAll : Nat → EA := (t_n 19 (t_n 6 (t_n 3 (t_n 1 (t_l 0 (a_push 1 (.int 0))) (t_n 2 (t_l 1 (a_istore 4 1 2)) (t_l 2 (a_push 1 (.int 0))))) (t_n 4 (t_l 3 (a_istore 4 1 3)) (t_n 5 (t_l 4 (a_iload 1 3)) (t_l 5 (a_aload 1 0))))) (t_n 13 (t_n 9 (t_l 6 (a_getf 3 5)) (t_n 12 (t_l 9 (a_ic 40 (fun x y => decide (y ≤ x)))) (t_l 12 (a_iload 1 3)))) (t_n 15 (t_l 13 (a_push 2 (.int 24))) (t_n 18 (t_l 15 (a_ic 40 (fun x y => decide (y ≤ x)))) (t_l 18 (a_aload 1 0)))))) (t_n 29 (t_n 24 (t_n 20 (t_l 19 (a_aload 1 0)) (t_n 23 (t_l 20 (a_getf 3 4)) (t_l 23 (a_iload 1 3)))) (t_n 25 (t_l 24 (a_ild 0)) (t_n 26 (t_l 25 (a_iload 1 1)) (t_l 26 (a_inv true 39 3 (some 3)))))) (t_n 34 (t_n 32 (t_l 29 (a_if 34 (fun x => decide (x = 0)))) (t_n 33 (t_l 32 (a_push 1 (.int 1))) (t_l 33 (a_istore 4 1 2)))) (t_n 40 (t_n 37 (t_l 34 (a_iinc 4 3 1)) (t_l 37 (a_goto 4))) (t_n 41 (t_l 40 (a_iload 1 2)) (t_l 41 a_iret))))))
set_option maxRecDepth 100000 in
theorem k_X3_lengthenAll (sc : Nat × (Nat → Int32)) (d : Nat) : ∀ pc, ev_Ok cX3_lengthenAll 4 [] RX3 lw_g lw_n (lw_q sc) vwCl false (ev_CO mt lw_g lw_n (lw_q sc) vwCl d) pc (g_X3_lengthenAll pc) := (ok_t_n (ok_t_n (ok_t_n (ok_t_n (ok_t_l (ok_iconst dX3_lengthenAll_0 rfl)) (ok_t_n (ok_t_l (ok_istore_n dX3_lengthenAll_1 rfl)) (ok_t_l (ok_iconst dX3_lengthenAll_2 rfl)))) (ok_t_n (ok_t_l (ok_istore_n dX3_lengthenAll_3 rfl)) (ok_t_n (ok_t_l (ok_iload_n dX3_lengthenAll_4 rfl)) (ok_t_l (ok_aload_n dX3_lengthenAll_5 rfl))))) (ok_t_n (ok_t_n (ok_t_l (ok_getfield dX3_lengthenAll_6 (ci := 3) (kf := 5) rfl inGX3 (by decide) w_1235)) (ok_t_n (ok_t_l (ok_icmp_ge dX3_lengthenAll_9 rfl)) (ok_t_l (ok_iload_n dX3_lengthenAll_12 rfl)))) (ok_t_n (ok_t_l (ok_bipush dX3_lengthenAll_13 rfl)) (ok_t_n (ok_t_l (ok_icmp_ge dX3_lengthenAll_15 rfl)) (ok_t_l (ok_aload_n dX3_lengthenAll_18 rfl)))))) (ok_t_n (ok_t_n (ok_t_n (ok_t_l (ok_aload_n dX3_lengthenAll_19 rfl)) (ok_t_n (ok_t_l (ok_getfield dX3_lengthenAll_20 (ci := 3) (kf := 4) rfl inGX3 (by decide) w_1234)) (ok_t_l (ok_iload_n dX3_lengthenAll_23 rfl)))) (ok_t_n (ok_t_l (ok_iaload dX3_lengthenAll_24)) (ok_t_n (ok_t_l (ok_iload_n dX3_lengthenAll_25 rfl)) (ok_t_l (ok_inv (run_V (y := 39) (n := 2) (ci := 3) dX3_lengthenAll_26 cz_39 gdG cc_39 ci_39 w_523 cm_39 cs_39 cd_39 cl_39 rfl rfl)))))) (ok_t_n (ok_t_n (ok_t_l (ok_if_eq dX3_lengthenAll_29 rfl)) (ok_t_n (ok_t_l (ok_iconst dX3_lengthenAll_32 rfl)) (ok_t_l (ok_istore_n dX3_lengthenAll_33 rfl)))) (ok_t_n (ok_t_n (ok_t_l (ok_iinc dX3_lengthenAll_34 rfl)) (ok_t_l (ok_goto dX3_lengthenAll_37 rfl))) (ok_t_n (ok_t_l (ok_iload_n dX3_lengthenAll_40 rfl)) (ok_t_l (ok_ireturn dX3_lengthenAll_41)))))))
theorem dX3_lengthenIn_0 : decode cX3_lengthenIn 0 = .ok (.iload_n 1, 1) := by decide +kernel
theorem dX3_lengthenIn_1 : decode cX3_lengthenIn 1 = .ok (.bipush 24, 2) := by decide +kernel
theorem dX3_lengthenIn_3 : decode cX3_lengthenIn 3 = .ok (.invokestatic 62, 3) := by decide +kernel
theorem dX3_lengthenIn_6 : decode cX3_lengthenIn 6 = .ok (.ifCond .ne 5, 3) := by decide +kernel
theorem dX3_lengthenIn_9 : decode cX3_lengthenIn 9 = .ok (.iconst 0, 1) := by decide +kernel
theorem dX3_lengthenIn_10 : decode cX3_lengthenIn 10 = .ok (.ireturn, 1) := by decide +kernel
theorem dX3_lengthenIn_11 : decode cX3_lengthenIn 11 = .ok (.iconst 0, 1) := by decide +kernel
theorem dX3_lengthenIn_12 : decode cX3_lengthenIn 12 = .ok (.istore_n 3, 1) := by decide +kernel
theorem dX3_lengthenIn_13 : decode cX3_lengthenIn 13 = .ok (.aload_n 0, 1) := by decide +kernel
theorem dX3_lengthenIn_14 : decode cX3_lengthenIn 14 = .ok (.getfield 19, 3) := by decide +kernel
theorem dX3_lengthenIn_17 : decode cX3_lengthenIn 17 = .ok (.iload_n 1, 1) := by decide +kernel
theorem dX3_lengthenIn_18 : decode cX3_lengthenIn 18 = .ok (.iaload, 1) := by decide +kernel
theorem dX3_lengthenIn_19 : decode cX3_lengthenIn 19 = .ok (.istore 4, 2) := by decide +kernel
theorem dX3_lengthenIn_21 : decode cX3_lengthenIn 21 = .ok (.iconst 0, 1) := by decide +kernel
theorem dX3_lengthenIn_22 : decode cX3_lengthenIn 22 = .ok (.istore 5, 2) := by decide +kernel
theorem dX3_lengthenIn_24 : decode cX3_lengthenIn 24 = .ok (.iload 5, 2) := by decide +kernel
theorem dX3_lengthenIn_26 : decode cX3_lengthenIn 26 = .ok (.bipush 8, 2) := by decide +kernel
theorem dX3_lengthenIn_28 : decode cX3_lengthenIn 28 = .ok (.if_icmp .ge 111, 3) := by decide +kernel
theorem dX3_lengthenIn_31 : decode cX3_lengthenIn 31 = .ok (.iload_n 1, 1) := by decide +kernel
theorem dX3_lengthenIn_32 : decode cX3_lengthenIn 32 = .ok (.bipush 8, 2) := by decide +kernel
theorem dX3_lengthenIn_34 : decode cX3_lengthenIn 34 = .ok (.imul, 1) := by decide +kernel
theorem dX3_lengthenIn_35 : decode cX3_lengthenIn 35 = .ok (.iload 5, 2) := by decide +kernel
theorem dX3_lengthenIn_37 : decode cX3_lengthenIn 37 = .ok (.iadd, 1) := by decide +kernel
theorem dX3_lengthenIn_38 : decode cX3_lengthenIn 38 = .ok (.istore 6, 2) := by decide +kernel
theorem dX3_lengthenIn_40 : decode cX3_lengthenIn 40 = .ok (.iload 4, 2) := by decide +kernel
theorem dX3_lengthenIn_42 : decode cX3_lengthenIn 42 = .ok (.aload_n 0, 1) := by decide +kernel
theorem dX3_lengthenIn_43 : decode cX3_lengthenIn 43 = .ok (.getfield 28, 3) := by decide +kernel
theorem dX3_lengthenIn_46 : decode cX3_lengthenIn 46 = .ok (.iload 6, 2) := by decide +kernel
theorem dX3_lengthenIn_48 : decode cX3_lengthenIn 48 = .ok (.iaload, 1) := by decide +kernel
theorem dX3_lengthenIn_49 : decode cX3_lengthenIn 49 = .ok (.iadd, 1) := by decide +kernel
theorem dX3_lengthenIn_50 : decode cX3_lengthenIn 50 = .ok (.istore 4, 2) := by decide +kernel
theorem dX3_lengthenIn_52 : decode cX3_lengthenIn 52 = .ok (.aload_n 0, 1) := by decide +kernel
theorem dX3_lengthenIn_53 : decode cX3_lengthenIn 53 = .ok (.getfield 40, 3) := by decide +kernel
theorem dX3_lengthenIn_56 : decode cX3_lengthenIn 56 = .ok (.iload_n 1, 1) := by decide +kernel
theorem dX3_lengthenIn_57 : decode cX3_lengthenIn 57 = .ok (.iload 5, 2) := by decide +kernel
theorem dX3_lengthenIn_59 : decode cX3_lengthenIn 59 = .ok (.invokevirtual 138, 3) := by decide +kernel
theorem dX3_lengthenIn_62 : decode cX3_lengthenIn 62 = .ok (.iconst 2, 1) := by decide +kernel
theorem dX3_lengthenIn_63 : decode cX3_lengthenIn 63 = .ok (.if_icmp .ne 18, 3) := by decide +kernel
theorem dX3_lengthenIn_66 : decode cX3_lengthenIn 66 = .ok (.aload_n 0, 1) := by decide +kernel
theorem dX3_lengthenIn_67 : decode cX3_lengthenIn 67 = .ok (.getfield 28, 3) := by decide +kernel
theorem dX3_lengthenIn_70 : decode cX3_lengthenIn 70 = .ok (.iload 6, 2) := by decide +kernel
theorem dX3_lengthenIn_72 : decode cX3_lengthenIn 72 = .ok (.iaload, 1) := by decide +kernel
theorem dX3_lengthenIn_73 : decode cX3_lengthenIn 73 = .ok (.iconst 2, 1) := by decide +kernel
theorem dX3_lengthenIn_74 : decode cX3_lengthenIn 74 = .ok (.if_icmp .ne 7, 3) := by decide +kernel
theorem dX3_lengthenIn_77 : decode cX3_lengthenIn 77 = .ok (.iconst 1, 1) := by decide +kernel
theorem dX3_lengthenIn_78 : decode cX3_lengthenIn 78 = .ok (.goto 4, 3) := by decide +kernel
theorem dX3_lengthenIn_81 : decode cX3_lengthenIn 81 = .ok (.iconst 0, 1) := by decide +kernel
theorem dX3_lengthenIn_82 : decode cX3_lengthenIn 82 = .ok (.istore 7, 2) := by decide +kernel
theorem dX3_lengthenIn_84 : decode cX3_lengthenIn 84 = .ok (.iload 7, 2) := by decide +kernel
theorem dX3_lengthenIn_86 : decode cX3_lengthenIn 86 = .ok (.ifCond .eq 47, 3) := by decide +kernel
theorem dX3_lengthenIn_89 : decode cX3_lengthenIn 89 = .ok (.iload 4, 2) := by decide +kernel
theorem dX3_lengthenIn_91 : decode cX3_lengthenIn 91 = .ok (.aload_n 0, 1) := by decide +kernel
theorem dX3_lengthenIn_92 : decode cX3_lengthenIn 92 = .ok (.aload_n 0, 1) := by decide +kernel
theorem dX3_lengthenIn_93 : decode cX3_lengthenIn 93 = .ok (.getfield 40, 3) := by decide +kernel
theorem dX3_lengthenIn_96 : decode cX3_lengthenIn 96 = .ok (.iload_n 1, 1) := by decide +kernel
theorem dX3_lengthenIn_97 : decode cX3_lengthenIn 97 = .ok (.iload 5, 2) := by decide +kernel
theorem dX3_lengthenIn_99 : decode cX3_lengthenIn 99 = .ok (.invokevirtual 141, 3) := by decide +kernel
theorem dX3_lengthenIn_102 : decode cX3_lengthenIn 102 = .ok (.invokevirtual 144, 3) := by decide +kernel
theorem dX3_lengthenIn_105 : decode cX3_lengthenIn 105 = .ok (.isub, 1) := by decide +kernel
theorem dX3_lengthenIn_106 : decode cX3_lengthenIn 106 = .ok (.invokestatic 147, 3) := by decide +kernel
theorem dX3_lengthenIn_109 : decode cX3_lengthenIn 109 = .ok (.iload_n 2, 1) := by decide +kernel
theorem dX3_lengthenIn_110 : decode cX3_lengthenIn 110 = .ok (.if_icmp .le 23, 3) := by decide +kernel
theorem dX3_lengthenIn_113 : decode cX3_lengthenIn 113 = .ok (.aload_n 0, 1) := by decide +kernel
theorem dX3_lengthenIn_114 : decode cX3_lengthenIn 114 = .ok (.getfield 28, 3) := by decide +kernel
theorem dX3_lengthenIn_117 : decode cX3_lengthenIn 117 = .ok (.iload 6, 2) := by decide +kernel
theorem dX3_lengthenIn_119 : decode cX3_lengthenIn 119 = .ok (.iconst 5, 1) := by decide +kernel
theorem dX3_lengthenIn_120 : decode cX3_lengthenIn 120 = .ok (.iastore, 1) := by decide +kernel
theorem dX3_lengthenIn_121 : decode cX3_lengthenIn 121 = .ok (.aload_n 0, 1) := by decide +kernel
theorem dX3_lengthenIn_122 : decode cX3_lengthenIn 122 = .ok (.getfield 25, 3) := by decide +kernel
theorem dX3_lengthenIn_125 : decode cX3_lengthenIn 125 = .ok (.iload_n 1, 1) := by decide +kernel
theorem dX3_lengthenIn_126 : decode cX3_lengthenIn 126 = .ok (.dup2, 1) := by decide +kernel
theorem dX3_lengthenIn_127 : decode cX3_lengthenIn 127 = .ok (.iaload, 1) := by decide +kernel
theorem dX3_lengthenIn_128 : decode cX3_lengthenIn 128 = .ok (.iconst 1, 1) := by decide +kernel
theorem dX3_lengthenIn_129 : decode cX3_lengthenIn 129 = .ok (.iadd, 1) := by decide +kernel
theorem dX3_lengthenIn_130 : decode cX3_lengthenIn 130 = .ok (.iastore, 1) := by decide +kernel
theorem dX3_lengthenIn_131 : decode cX3_lengthenIn 131 = .ok (.iconst 1, 1) := by decide +kernel
theorem dX3_lengthenIn_132 : decode cX3_lengthenIn 132 = .ok (.istore_n 3, 1) := by decide +kernel
theorem dX3_lengthenIn_133 : decode cX3_lengthenIn 133 = .ok (.iinc 5 1, 3) := by decide +kernel
theorem dX3_lengthenIn_136 : decode cX3_lengthenIn 136 = .ok (.goto (-112), 3) := by decide +kernel
theorem dX3_lengthenIn_139 : decode cX3_lengthenIn 139 = .ok (.iload_n 3, 1) := by decide +kernel
theorem dX3_lengthenIn_140 : decode cX3_lengthenIn 140 = .ok (.ireturn, 1) := by decide +kernel
def g_X3_lengthenIn : Nat → EA := (t_n 70 (t_n 34 (t_n 17 (t_n 10 (t_n 3 (t_n 1 (t_l 0 (a_iload 1 1)) (t_l 1 (a_push 2 (.int 24)))) (t_n 6 (t_l 3 (a_inv false 192 2 none)) (t_n 9 (t_l 6 (a_if 11 (fun x => !decide (x = 0)))) (t_l 9 (a_push 1 (.int 0)))))) (t_n 12 (t_n 11 (t_l 10 a_iret) (t_l 11 (a_push 1 (.int 0)))) (t_n 13 (t_l 12 (a_istore 8 1 3)) (t_n 14 (t_l 13 (a_aload 1 0)) (t_l 14 (a_getf 3 6)))))) (t_n 24 (t_n 19 (t_n 18 (t_l 17 (a_iload 1 1)) (t_l 18 (a_ild 0))) (t_n 21 (t_l 19 (a_istore 8 2 4)) (t_n 22 (t_l 21 (a_push 1 (.int 0))) (t_l 22 (a_istore 8 2 5))))) (t_n 28 (t_n 26 (t_l 24 (a_iload 2 5)) (t_l 26 (a_push 2 (.int 8)))) (t_n 31 (t_l 28 (a_ic 139 (fun x y => decide (y ≤ x)))) (t_n 32 (t_l 31 (a_iload 1 1)) (t_l 32 (a_push 2 (.int 8)))))))) (t_n 50 (t_n 42 (t_n 37 (t_n 35 (t_l 34 (a_ii 1 (fun x y => x * y))) (t_l 35 (a_iload 2 5))) (t_n 38 (t_l 37 (a_ii 1 (fun x y => x + y))) (t_n 40 (t_l 38 (a_istore 8 2 6)) (t_l 40 (a_iload 2 4))))) (t_n 46 (t_n 43 (t_l 42 (a_aload 1 0)) (t_l 43 (a_getf 3 9))) (t_n 48 (t_l 46 (a_iload 2 6)) (t_n 49 (t_l 48 (a_ild 0)) (t_l 49 (a_ii 1 (fun x y => x + y))))))) (t_n 59 (t_n 53 (t_n 52 (t_l 50 (a_istore 8 2 4)) (t_l 52 (a_aload 1 0))) (t_n 56 (t_l 53 (a_getf 3 0)) (t_n 57 (t_l 56 (a_iload 1 1)) (t_l 57 (a_iload 2 5))))) (t_n 63 (t_n 62 (t_l 59 (a_inv true 129 3 (some 8))) (t_l 62 (a_push 1 (.int 2)))) (t_n 66 (t_l 63 (a_ic 81 (fun x y => !decide (x = y)))) (t_n 67 (t_l 66 (a_aload 1 0)) (t_l 67 (a_getf 3 9)))))))) (t_n 109 (t_n 89 (t_n 78 (t_n 73 (t_n 72 (t_l 70 (a_iload 2 6)) (t_l 72 (a_ild 0))) (t_n 74 (t_l 73 (a_push 1 (.int 2))) (t_n 77 (t_l 74 (a_ic 81 (fun x y => !decide (x = y)))) (t_l 77 (a_push 1 (.int 1)))))) (t_n 82 (t_n 81 (t_l 78 (a_goto 82)) (t_l 81 (a_push 1 (.int 0)))) (t_n 84 (t_l 82 (a_istore 8 2 7)) (t_n 86 (t_l 84 (a_iload 2 7)) (t_l 86 (a_if 133 (fun x => decide (x = 0)))))))) (t_n 97 (t_n 92 (t_n 91 (t_l 89 (a_iload 2 4)) (t_l 91 (a_aload 1 0))) (t_n 93 (t_l 92 (a_aload 1 0)) (t_n 96 (t_l 93 (a_getf 3 0)) (t_l 96 (a_iload 1 1))))) (t_n 102 (t_n 99 (t_l 97 (a_iload 2 5)) (t_l 99 (a_inv true 132 3 (some 8)))) (t_n 105 (t_l 102 (a_inv true 29 2 (some 3))) (t_n 106 (t_l 105 (a_ii 1 (fun x y => x - y))) (t_l 106 (a_inv true 210 1 none))))))) (t_n 126 (t_n 119 (t_n 113 (t_n 110 (t_l 109 (a_iload 1 2)) (t_l 110 (a_ic 133 (fun x y => decide (x ≤ y))))) (t_n 114 (t_l 113 (a_aload 1 0)) (t_n 117 (t_l 114 (a_getf 3 9)) (t_l 117 (a_iload 2 6))))) (t_n 121 (t_n 120 (t_l 119 (a_push 1 (.int 5))) (t_l 120 (a_ist 0))) (t_n 122 (t_l 121 (a_aload 1 0)) (t_n 125 (t_l 122 (a_getf 3 8)) (t_l 125 (a_iload 1 1)))))) (t_n 131 (t_n 128 (t_n 127 (t_l 126 a_dup2) (t_l 127 (a_ild 0))) (t_n 129 (t_l 128 (a_push 1 (.int 1))) (t_n 130 (t_l 129 (a_ii 1 (fun x y => x + y))) (t_l 130 (a_ist 0))))) (t_n 136 (t_n 132 (t_l 131 (a_push 1 (.int 1))) (t_n 133 (t_l 132 (a_istore 8 1 3)) (t_l 133 (a_iinc 8 5 1)))) (t_n 139 (t_l 136 (a_goto 24)) (t_n 140 (t_l 139 (a_iload 1 3)) (t_l 140 a_iret))))))))
set_option maxRecDepth 100000 in
theorem k_X3_lengthenIn (sc : Nat × (Nat → Int32)) (d : Nat) : ∀ pc, ev_Ok cX3_lengthenIn 8 [] RX3 lw_g lw_n (lw_q sc) vwCl false (ev_CO mt lw_g lw_n (lw_q sc) vwCl d) pc (g_X3_lengthenIn pc) := (ok_t_n (ok_t_n (ok_t_n (ok_t_n (ok_t_n (ok_t_n (ok_t_l (ok_iload_n dX3_lengthenIn_0 rfl)) (ok_t_l (ok_bipush dX3_lengthenIn_1 rfl))) (ok_t_n (ok_t_l (ok_inv (run_SN (y := 192) (n := 2) dX3_lengthenIn_3 cz_192 gdG cc_192 ci_192 nst_10 cm_192 cd_192 cl_192))) (ok_t_n (ok_t_l (ok_if_ne dX3_lengthenIn_6 rfl)) (ok_t_l (ok_iconst dX3_lengthenIn_9 rfl))))) (ok_t_n (ok_t_n (ok_t_l (ok_ireturn dX3_lengthenIn_10)) (ok_t_l (ok_iconst dX3_lengthenIn_11 rfl))) (ok_t_n (ok_t_l (ok_istore_n dX3_lengthenIn_12 rfl)) (ok_t_n (ok_t_l (ok_aload_n dX3_lengthenIn_13 rfl)) (ok_t_l (ok_getfield dX3_lengthenIn_14 (ci := 3) (kf := 6) rfl inGX3 (by decide) w_1236)))))) (ok_t_n (ok_t_n (ok_t_n (ok_t_l (ok_iload_n dX3_lengthenIn_17 rfl)) (ok_t_l (ok_iaload dX3_lengthenIn_18))) (ok_t_n (ok_t_l (ok_istore dX3_lengthenIn_19)) (ok_t_n (ok_t_l (ok_iconst dX3_lengthenIn_21 rfl)) (ok_t_l (ok_istore dX3_lengthenIn_22))))) (ok_t_n (ok_t_n (ok_t_l (ok_iload dX3_lengthenIn_24)) (ok_t_l (ok_bipush dX3_lengthenIn_26 rfl))) (ok_t_n (ok_t_l (ok_icmp_ge dX3_lengthenIn_28 rfl)) (ok_t_n (ok_t_l (ok_iload_n dX3_lengthenIn_31 rfl)) (ok_t_l (ok_bipush dX3_lengthenIn_32 rfl))))))) (ok_t_n (ok_t_n (ok_t_n (ok_t_n (ok_t_l (ok_imul dX3_lengthenIn_34)) (ok_t_l (ok_iload dX3_lengthenIn_35))) (ok_t_n (ok_t_l (ok_iadd dX3_lengthenIn_37)) (ok_t_n (ok_t_l (ok_istore dX3_lengthenIn_38)) (ok_t_l (ok_iload dX3_lengthenIn_40))))) (ok_t_n (ok_t_n (ok_t_l (ok_aload_n dX3_lengthenIn_42 rfl)) (ok_t_l (ok_getfield dX3_lengthenIn_43 (ci := 3) (kf := 9) rfl inGX3 (by decide) w_1239))) (ok_t_n (ok_t_l (ok_iload dX3_lengthenIn_46)) (ok_t_n (ok_t_l (ok_iaload dX3_lengthenIn_48)) (ok_t_l (ok_iadd dX3_lengthenIn_49)))))) (ok_t_n (ok_t_n (ok_t_n (ok_t_l (ok_istore dX3_lengthenIn_50)) (ok_t_l (ok_aload_n dX3_lengthenIn_52 rfl))) (ok_t_n (ok_t_l (ok_getfield dX3_lengthenIn_53 (ci := 3) (kf := 0) rfl inGX3 (by decide) w_1230)) (ok_t_n (ok_t_l (ok_iload_n dX3_lengthenIn_56 rfl)) (ok_t_l (ok_iload dX3_lengthenIn_57))))) (ok_t_n (ok_t_n (ok_t_l (ok_inv (run_V (y := 129) (n := 2) (ci := 8) dX3_lengthenIn_59 cz_129 gdG cc_129 ci_129 w_527 cm_129 cs_129 cd_129 cl_129 rfl rfl))) (ok_t_l (ok_iconst dX3_lengthenIn_62 rfl))) (ok_t_n (ok_t_l (ok_icmp_ne dX3_lengthenIn_63 rfl)) (ok_t_n (ok_t_l (ok_aload_n dX3_lengthenIn_66 rfl)) (ok_t_l (ok_getfield dX3_lengthenIn_67 (ci := 3) (kf := 9) rfl inGX3 (by decide) w_1239)))))))) (ok_t_n (ok_t_n (ok_t_n (ok_t_n (ok_t_n (ok_t_l (ok_iload dX3_lengthenIn_70)) (ok_t_l (ok_iaload dX3_lengthenIn_72))) (ok_t_n (ok_t_l (ok_iconst dX3_lengthenIn_73 rfl)) (ok_t_n (ok_t_l (ok_icmp_ne dX3_lengthenIn_74 rfl)) (ok_t_l (ok_iconst dX3_lengthenIn_77 rfl))))) (ok_t_n (ok_t_n (ok_t_l (ok_goto dX3_lengthenIn_78 rfl)) (ok_t_l (ok_iconst dX3_lengthenIn_81 rfl))) (ok_t_n (ok_t_l (ok_istore dX3_lengthenIn_82)) (ok_t_n (ok_t_l (ok_iload dX3_lengthenIn_84)) (ok_t_l (ok_if_eq dX3_lengthenIn_86 rfl)))))) (ok_t_n (ok_t_n (ok_t_n (ok_t_l (ok_iload dX3_lengthenIn_89)) (ok_t_l (ok_aload_n dX3_lengthenIn_91 rfl))) (ok_t_n (ok_t_l (ok_aload_n dX3_lengthenIn_92 rfl)) (ok_t_n (ok_t_l (ok_getfield dX3_lengthenIn_93 (ci := 3) (kf := 0) rfl inGX3 (by decide) w_1230)) (ok_t_l (ok_iload_n dX3_lengthenIn_96 rfl))))) (ok_t_n (ok_t_n (ok_t_l (ok_iload dX3_lengthenIn_97)) (ok_t_l (ok_inv (run_V (y := 132) (n := 2) (ci := 8) dX3_lengthenIn_99 cz_132 gdG cc_132 ci_132 w_528 cm_132 cs_132 cd_132 cl_132 rfl rfl)))) (ok_t_n (ok_t_l (ok_inv (run_V (y := 29) (n := 1) (ci := 3) dX3_lengthenIn_102 cz_29 gdG cc_29 ci_29 w_529 cm_29 cs_29 cd_29 cl_29 rfl rfl))) (ok_t_n (ok_t_l (ok_isub dX3_lengthenIn_105)) (ok_t_l (ok_inv (run_S (y := 210) (n := 1) dX3_lengthenIn_106 cz_210 gdG cc_210 ci_210 w_534 cm_210 cd_210 cl_210)))))))) (ok_t_n (ok_t_n (ok_t_n (ok_t_n (ok_t_l (ok_iload_n dX3_lengthenIn_109 rfl)) (ok_t_l (ok_icmp_le dX3_lengthenIn_110 rfl))) (ok_t_n (ok_t_l (ok_aload_n dX3_lengthenIn_113 rfl)) (ok_t_n (ok_t_l (ok_getfield dX3_lengthenIn_114 (ci := 3) (kf := 9) rfl inGX3 (by decide) w_1239)) (ok_t_l (ok_iload dX3_lengthenIn_117))))) (ok_t_n (ok_t_n (ok_t_l (ok_iconst dX3_lengthenIn_119 rfl)) (ok_t_l (ok_iastore dX3_lengthenIn_120))) (ok_t_n (ok_t_l (ok_aload_n dX3_lengthenIn_121 rfl)) (ok_t_n (ok_t_l (ok_getfield dX3_lengthenIn_122 (ci := 3) (kf := 8) rfl inGX3 (by decide) w_1238)) (ok_t_l (ok_iload_n dX3_lengthenIn_125 rfl)))))) (ok_t_n (ok_t_n (ok_t_n (ok_t_l (ok_dup2 dX3_lengthenIn_126)) (ok_t_l (ok_iaload dX3_lengthenIn_127))) (ok_t_n (ok_t_l (ok_iconst dX3_lengthenIn_128 rfl)) (ok_t_n (ok_t_l (ok_iadd dX3_lengthenIn_129)) (ok_t_l (ok_iastore dX3_lengthenIn_130))))) (ok_t_n (ok_t_n (ok_t_l (ok_iconst dX3_lengthenIn_131 rfl)) (ok_t_n (ok_t_l (ok_istore_n dX3_lengthenIn_132 rfl)) (ok_t_l (ok_iinc dX3_lengthenIn_133 rfl)))) (ok_t_n (ok_t_l (ok_goto dX3_lengthenIn_136 rfl)) (ok_t_n (ok_t_l (ok_iload_n dX3_lengthenIn_139 rfl)) (ok_t_l (ok_ireturn dX3_lengthenIn_140)))))))))
theorem dX4_init_0 : decode cX4_init 0 = .ok (.aload_n 0, 1) := by decide +kernel
theorem dX4_init_1 : decode cX4_init 1 = .ok (.invokespecial 3, 3) := by decide +kernel
theorem dX4_init_4 : decode cX4_init 4 = .ok (.aload_n 0, 1) := by decide +kernel
theorem dX4_init_5 : decode cX4_init 5 = .ok (.bipush 6, 2) := by decide +kernel
theorem dX4_init_7 : decode cX4_init 7 = .ok (.newarray .int, 2) := by decide +kernel
theorem dX4_init_9 : decode cX4_init 9 = .ok (.putfield 9, 3) := by decide +kernel
theorem dX4_init_12 : decode cX4_init 12 = .ok (.aload_n 0, 1) := by decide +kernel
theorem dX4_init_13 : decode cX4_init 13 = .ok (.bipush 6, 2) := by decide +kernel
theorem dX4_init_15 : decode cX4_init 15 = .ok (.newarray .int, 2) := by decide +kernel
theorem dX4_init_17 : decode cX4_init 17 = .ok (.putfield 15, 3) := by decide +kernel
theorem dX4_init_20 : decode cX4_init 20 = .ok (.aload_n 0, 1) := by decide +kernel
theorem dX4_init_21 : decode cX4_init 21 = .ok (.bipush 6, 2) := by decide +kernel
theorem dX4_init_23 : decode cX4_init 23 = .ok (.newarray .int, 2) := by decide +kernel
theorem dX4_init_25 : decode cX4_init 25 = .ok (.putfield 18, 3) := by decide +kernel
theorem dX4_init_28 : decode cX4_init 28 = .ok (.aload_n 0, 1) := by decide +kernel
theorem dX4_init_29 : decode cX4_init 29 = .ok (.bipush 6, 2) := by decide +kernel
theorem dX4_init_31 : decode cX4_init 31 = .ok (.newarray .int, 2) := by decide +kernel
theorem dX4_init_33 : decode cX4_init 33 = .ok (.putfield 21, 3) := by decide +kernel
theorem dX4_init_36 : decode cX4_init 36 = .ok (.aload_n 0, 1) := by decide +kernel
theorem dX4_init_37 : decode cX4_init 37 = .ok (.bipush 120, 2) := by decide +kernel
theorem dX4_init_39 : decode cX4_init 39 = .ok (.newarray .int, 2) := by decide +kernel
theorem dX4_init_41 : decode cX4_init 41 = .ok (.putfield 24, 3) := by decide +kernel
theorem dX4_init_44 : decode cX4_init 44 = .ok (.aload_n 0, 1) := by decide +kernel
theorem dX4_init_45 : decode cX4_init 45 = .ok (.bipush 6, 2) := by decide +kernel
theorem dX4_init_47 : decode cX4_init 47 = .ok (.newarray .int, 2) := by decide +kernel
theorem dX4_init_49 : decode cX4_init 49 = .ok (.putfield 27, 3) := by decide +kernel
theorem dX4_init_52 : decode cX4_init 52 = .ok (.aload_n 0, 1) := by decide +kernel
theorem dX4_init_53 : decode cX4_init 53 = .ok (.bipush 6, 2) := by decide +kernel
theorem dX4_init_55 : decode cX4_init 55 = .ok (.newarray .int, 2) := by decide +kernel
theorem dX4_init_57 : decode cX4_init 57 = .ok (.putfield 30, 3) := by decide +kernel
theorem dX4_init_60 : decode cX4_init 60 = .ok (.aload_n 0, 1) := by decide +kernel
theorem dX4_init_61 : decode cX4_init 61 = .ok (.bipush 120, 2) := by decide +kernel
theorem dX4_init_63 : decode cX4_init 63 = .ok (.newarray .int, 2) := by decide +kernel
theorem dX4_init_65 : decode cX4_init 65 = .ok (.putfield 33, 3) := by decide +kernel
theorem dX4_init_68 : decode cX4_init 68 = .ok (.aload_n 0, 1) := by decide +kernel
theorem dX4_init_69 : decode cX4_init 69 = .ok (.bipush 6, 2) := by decide +kernel
theorem dX4_init_71 : decode cX4_init 71 = .ok (.newarray .int, 2) := by decide +kernel
theorem dX4_init_73 : decode cX4_init 73 = .ok (.putfield 36, 3) := by decide +kernel
theorem dX4_init_76 : decode cX4_init 76 = .ok (.aload_n 0, 1) := by decide +kernel
theorem dX4_init_77 : decode cX4_init 77 = .ok (.bipush 6, 2) := by decide +kernel
theorem dX4_init_79 : decode cX4_init 79 = .ok (.newarray .int, 2) := by decide +kernel
theorem dX4_init_81 : decode cX4_init 81 = .ok (.putfield 39, 3) := by decide +kernel
theorem dX4_init_84 : decode cX4_init 84 = .ok (.aload_n 0, 1) := by decide +kernel
theorem dX4_init_85 : decode cX4_init 85 = .ok (.bipush 6, 2) := by decide +kernel
theorem dX4_init_87 : decode cX4_init 87 = .ok (.newarray .int, 2) := by decide +kernel
theorem dX4_init_89 : decode cX4_init 89 = .ok (.putfield 42, 3) := by decide +kernel
theorem dX4_init_92 : decode cX4_init 92 = .ok (.aload_n 0, 1) := by decide +kernel
theorem dX4_init_93 : decode cX4_init 93 = .ok (.bipush 6, 2) := by decide +kernel
theorem dX4_init_95 : decode cX4_init 95 = .ok (.newarray .int, 2) := by decide +kernel
theorem dX4_init_97 : decode cX4_init 97 = .ok (.putfield 45, 3) := by decide +kernel
theorem dX4_init_100 : decode cX4_init 100 = .ok (.aload_n 0, 1) := by decide +kernel
theorem dX4_init_101 : decode cX4_init 101 = .ok (.iconst 0, 1) := by decide +kernel
theorem dX4_init_102 : decode cX4_init 102 = .ok (.putfield 48, 3) := by decide +kernel
theorem dX4_init_105 : decode cX4_init 105 = .ok (.aload_n 0, 1) := by decide +kernel
theorem dX4_init_106 : decode cX4_init 106 = .ok (.iconst 0, 1) := by decide +kernel
theorem dX4_init_107 : decode cX4_init 107 = .ok (.putfield 52, 3) := by decide +kernel
theorem dX4_init_110 : decode cX4_init 110 = .ok (.aload_n 0, 1) := by decide +kernel
theorem dX4_init_111 : decode cX4_init 111 = .ok (.iconst 0, 1) := by decide +kernel
theorem dX4_init_112 : decode cX4_init 112 = .ok (.putfield 55, 3) := by decide +kernel
theorem dX4_init_115 : decode cX4_init 115 = .ok (.aload_n 0, 1) := by decide +kernel
theorem dX4_init_116 : decode cX4_init 116 = .ok (.iconst 0, 1) := by decide +kernel
theorem dX4_init_117 : decode cX4_init 117 = .ok (.putfield 58, 3) := by decide +kernel
theorem dX4_init_120 : decode cX4_init 120 = .ok (.iconst 0, 1) := by decide +kernel
theorem dX4_init_121 : decode cX4_init 121 = .ok (.istore_n 1, 1) := by decide +kernel
theorem dX4_init_122 : decode cX4_init 122 = .ok (.iload_n 1, 1) := by decide +kernel
theorem dX4_init_123 : decode cX4_init 123 = .ok (.bipush 6, 2) := by decide +kernel
theorem dX4_init_125 : decode cX4_init 125 = .ok (.if_icmp .ge 16, 3) := by decide +kernel
theorem dX4_init_128 : decode cX4_init 128 = .ok (.aload_n 0, 1) := by decide +kernel
theorem dX4_init_129 : decode cX4_init 129 = .ok (.getfield 30, 3) := by decide +kernel
theorem dX4_init_132 : decode cX4_init 132 = .ok (.iload_n 1, 1) := by decide +kernel
theorem dX4_init_133 : decode cX4_init 133 = .ok (.iconst (-1), 1) := by decide +kernel
theorem dX4_init_134 : decode cX4_init 134 = .ok (.iastore, 1) := by decide +kernel
theorem dX4_init_135 : decode cX4_init 135 = .ok (.iinc 1 1, 3) := by decide +kernel
theorem dX4_init_138 : decode cX4_init 138 = .ok (.goto (-16), 3) := by decide +kernel
theorem dX4_init_141 : decode cX4_init 141 = .ok (.iconst 0, 1) := by decide +kernel
theorem dX4_init_142 : decode cX4_init 142 = .ok (.istore_n 1, 1) := by decide +kernel
theorem dX4_init_143 : decode cX4_init 143 = .ok (.iload_n 1, 1) := by decide +kernel
theorem dX4_init_144 : decode cX4_init 144 = .ok (.bipush 120, 2) := by decide +kernel
theorem dX4_init_146 : decode cX4_init 146 = .ok (.if_icmp .ge 16, 3) := by decide +kernel
theorem dX4_init_149 : decode cX4_init 149 = .ok (.aload_n 0, 1) := by decide +kernel
theorem dX4_init_150 : decode cX4_init 150 = .ok (.getfield 33, 3) := by decide +kernel
theorem dX4_init_153 : decode cX4_init 153 = .ok (.iload_n 1, 1) := by decide +kernel
theorem dX4_init_154 : decode cX4_init 154 = .ok (.iconst (-1), 1) := by decide +kernel
theorem dX4_init_155 : decode cX4_init 155 = .ok (.iastore, 1) := by decide +kernel
theorem dX4_init_156 : decode cX4_init 156 = .ok (.iinc 1 1, 3) := by decide +kernel
theorem dX4_init_159 : decode cX4_init 159 = .ok (.goto (-16), 3) := by decide +kernel
theorem dX4_init_162 : decode cX4_init 162 = .ok (.return_, 1) := by decide +kernel
def g_X4_init : Nat → EA := (t_n 85 (t_n 41 (t_n 20 (t_n 9 (t_n 4 (t_n 1 (t_l 0 (a_aload 1 0)) (t_l 1 a_objI)) (t_n 5 (t_l 4 (a_aload 1 0)) (t_n 7 (t_l 5 (a_push 2 (.int 6))) (t_l 7 (a_newa 0))))) (t_n 13 (t_n 12 (t_l 9 (a_putf 9 4 0)) (t_l 12 (a_aload 1 0))) (t_n 15 (t_l 13 (a_push 2 (.int 6))) (t_n 17 (t_l 15 (a_newa 0)) (t_l 17 (a_putf 9 4 1)))))) (t_n 29 (t_n 23 (t_n 21 (t_l 20 (a_aload 1 0)) (t_l 21 (a_push 2 (.int 6)))) (t_n 25 (t_l 23 (a_newa 0)) (t_n 28 (t_l 25 (a_putf 9 4 2)) (t_l 28 (a_aload 1 0))))) (t_n 36 (t_n 31 (t_l 29 (a_push 2 (.int 6))) (t_n 33 (t_l 31 (a_newa 0)) (t_l 33 (a_putf 9 4 3)))) (t_n 37 (t_l 36 (a_aload 1 0)) (t_n 39 (t_l 37 (a_push 2 (.int 120))) (t_l 39 (a_newa 0))))))) (t_n 63 (t_n 52 (t_n 45 (t_n 44 (t_l 41 (a_putf 9 4 4)) (t_l 44 (a_aload 1 0))) (t_n 47 (t_l 45 (a_push 2 (.int 6))) (t_n 49 (t_l 47 (a_newa 0)) (t_l 49 (a_putf 9 4 5))))) (t_n 57 (t_n 53 (t_l 52 (a_aload 1 0)) (t_n 55 (t_l 53 (a_push 2 (.int 6))) (t_l 55 (a_newa 0)))) (t_n 60 (t_l 57 (a_putf 9 4 6)) (t_n 61 (t_l 60 (a_aload 1 0)) (t_l 61 (a_push 2 (.int 120))))))) (t_n 73 (t_n 68 (t_n 65 (t_l 63 (a_newa 0)) (t_l 65 (a_putf 9 4 7))) (t_n 69 (t_l 68 (a_aload 1 0)) (t_n 71 (t_l 69 (a_push 2 (.int 6))) (t_l 71 (a_newa 0))))) (t_n 79 (t_n 76 (t_l 73 (a_putf 9 4 8)) (t_n 77 (t_l 76 (a_aload 1 0)) (t_l 77 (a_push 2 (.int 6))))) (t_n 81 (t_l 79 (a_newa 0)) (t_n 84 (t_l 81 (a_putf 9 4 9)) (t_l 84 (a_aload 1 0)))))))) (t_n 123 (t_n 106 (t_n 95 (t_n 89 (t_n 87 (t_l 85 (a_push 2 (.int 6))) (t_l 87 (a_newa 0))) (t_n 92 (t_l 89 (a_putf 9 4 10)) (t_n 93 (t_l 92 (a_aload 1 0)) (t_l 93 (a_push 2 (.int 6)))))) (t_n 101 (t_n 97 (t_l 95 (a_newa 0)) (t_n 100 (t_l 97 (a_putf 9 4 11)) (t_l 100 (a_aload 1 0)))) (t_n 102 (t_l 101 (a_push 1 (.int 0))) (t_n 105 (t_l 102 (a_putf 0 4 12)) (t_l 105 (a_aload 1 0)))))) (t_n 115 (t_n 110 (t_n 107 (t_l 106 (a_push 1 (.int 0))) (t_l 107 (a_putf 0 4 13))) (t_n 111 (t_l 110 (a_aload 1 0)) (t_n 112 (t_l 111 (a_push 1 (.int 0))) (t_l 112 (a_putf 0 4 14))))) (t_n 120 (t_n 116 (t_l 115 (a_aload 1 0)) (t_n 117 (t_l 116 (a_push 1 (.int 0))) (t_l 117 (a_putf 0 4 15)))) (t_n 121 (t_l 120 (a_push 1 (.int 0))) (t_n 122 (t_l 121 (a_istore 2 1 1)) (t_l 122 (a_iload 1 1))))))) (t_n 143 (t_n 133 (t_n 128 (t_n 125 (t_l 123 (a_push 2 (.int 6))) (t_l 125 (a_ic 141 (fun x y => decide (y ≤ x))))) (t_n 129 (t_l 128 (a_aload 1 0)) (t_n 132 (t_l 129 (a_getf 4 6)) (t_l 132 (a_iload 1 1))))) (t_n 138 (t_n 134 (t_l 133 (a_push 1 (.int (-1)))) (t_n 135 (t_l 134 (a_ist 0)) (t_l 135 (a_iinc 2 1 1)))) (t_n 141 (t_l 138 (a_goto 122)) (t_n 142 (t_l 141 (a_push 1 (.int 0))) (t_l 142 (a_istore 2 1 1)))))) (t_n 153 (t_n 146 (t_n 144 (t_l 143 (a_iload 1 1)) (t_l 144 (a_push 2 (.int 120)))) (t_n 149 (t_l 146 (a_ic 162 (fun x y => decide (y ≤ x)))) (t_n 150 (t_l 149 (a_aload 1 0)) (t_l 150 (a_getf 4 7))))) (t_n 156 (t_n 154 (t_l 153 (a_iload 1 1)) (t_n 155 (t_l 154 (a_push 1 (.int (-1)))) (t_l 155 (a_ist 0)))) (t_n 159 (t_l 156 (a_iinc 2 1 1)) (t_n 162 (t_l 159 (a_goto 143)) (t_l 162 a_vret))))))))
set_option maxRecDepth 100000 in
theorem k_X4_init (sc : Nat × (Nat → Int32)) (d : Nat) : ∀ pc, ev_Ok cX4_init 2 [] RX4 lw_g lw_n (lw_q sc) vwCl true (ev_CO mt lw_g lw_n (lw_q sc) vwCl d) pc (g_X4_init pc) := (ok_t_n (ok_t_n (ok_t_n (ok_t_n (ok_t_n (ok_t_n (ok_t_l (ok_aload_n dX4_init_0 rfl)) (ok_t_l (ok_objinit dX4_init_1 w_1051 w_94 w_obj ev_CO.small))) (ok_t_n (ok_t_l (ok_aload_n dX4_init_4 rfl)) (ok_t_n (ok_t_l (ok_bipush dX4_init_5 rfl)) (ok_t_l (ok_newint dX4_init_7 w_614))))) (ok_t_n (ok_t_n (ok_t_l (ok_putfieldF dX4_init_9 (ci := 4) (kf := 0) rfl inGX4 (by decide) tyX4_ok nmX4 rfl w_1052 rfl rfl rfl)) (ok_t_l (ok_aload_n dX4_init_12 rfl))) (ok_t_n (ok_t_l (ok_bipush dX4_init_13 rfl)) (ok_t_n (ok_t_l (ok_newint dX4_init_15 w_614)) (ok_t_l (ok_putfieldF dX4_init_17 (ci := 4) (kf := 1) rfl inGX4 (by decide) tyX4_ok nmX4 rfl w_1053 rfl rfl rfl)))))) (ok_t_n (ok_t_n (ok_t_n (ok_t_l (ok_aload_n dX4_init_20 rfl)) (ok_t_l (ok_bipush dX4_init_21 rfl))) (ok_t_n (ok_t_l (ok_newint dX4_init_23 w_614)) (ok_t_n (ok_t_l (ok_putfieldF dX4_init_25 (ci := 4) (kf := 2) rfl inGX4 (by decide) tyX4_ok nmX4 rfl w_1054 rfl rfl rfl)) (ok_t_l (ok_aload_n dX4_init_28 rfl))))) (ok_t_n (ok_t_n (ok_t_l (ok_bipush dX4_init_29 rfl)) (ok_t_n (ok_t_l (ok_newint dX4_init_31 w_614)) (ok_t_l (ok_putfieldF dX4_init_33 (ci := 4) (kf := 3) rfl inGX4 (by decide) tyX4_ok nmX4 rfl w_1055 rfl rfl rfl)))) (ok_t_n (ok_t_l (ok_aload_n dX4_init_36 rfl)) (ok_t_n (ok_t_l (ok_bipush dX4_init_37 rfl)) (ok_t_l (ok_newint dX4_init_39 w_614))))))) (ok_t_n (ok_t_n (ok_t_n (ok_t_n (ok_t_l (ok_putfieldF dX4_init_41 (ci := 4) (kf := 4) rfl inGX4 (by decide) tyX4_ok nmX4 rfl w_1056 rfl rfl rfl)) (ok_t_l (ok_aload_n dX4_init_44 rfl))) (ok_t_n (ok_t_l (ok_bipush dX4_init_45 rfl)) (ok_t_n (ok_t_l (ok_newint dX4_init_47 w_614)) (ok_t_l (ok_putfieldF dX4_init_49 (ci := 4) (kf := 5) rfl inGX4 (by decide) tyX4_ok nmX4 rfl w_1057 rfl rfl rfl))))) (ok_t_n (ok_t_n (ok_t_l (ok_aload_n dX4_init_52 rfl)) (ok_t_n (ok_t_l (ok_bipush dX4_init_53 rfl)) (ok_t_l (ok_newint dX4_init_55 w_614)))) (ok_t_n (ok_t_l (ok_putfieldF dX4_init_57 (ci := 4) (kf := 6) rfl inGX4 (by decide) tyX4_ok nmX4 rfl w_1058 rfl rfl rfl)) (ok_t_n (ok_t_l (ok_aload_n dX4_init_60 rfl)) (ok_t_l (ok_bipush dX4_init_61 rfl)))))) (ok_t_n (ok_t_n (ok_t_n (ok_t_l (ok_newint dX4_init_63 w_614)) (ok_t_l (ok_putfieldF dX4_init_65 (ci := 4) (kf := 7) rfl inGX4 (by decide) tyX4_ok nmX4 rfl w_1059 rfl rfl rfl))) (ok_t_n (ok_t_l (ok_aload_n dX4_init_68 rfl)) (ok_t_n (ok_t_l (ok_bipush dX4_init_69 rfl)) (ok_t_l (ok_newint dX4_init_71 w_614))))) (ok_t_n (ok_t_n (ok_t_l (ok_putfieldF dX4_init_73 (ci := 4) (kf := 8) rfl inGX4 (by decide) tyX4_ok nmX4 rfl w_1060 rfl rfl rfl)) (ok_t_n (ok_t_l (ok_aload_n dX4_init_76 rfl)) (ok_t_l (ok_bipush dX4_init_77 rfl)))) (ok_t_n (ok_t_l (ok_newint dX4_init_79 w_614)) (ok_t_n (ok_t_l (ok_putfieldF dX4_init_81 (ci := 4) (kf := 9) rfl inGX4 (by decide) tyX4_ok nmX4 rfl w_1061 rfl rfl rfl)) (ok_t_l (ok_aload_n dX4_init_84 rfl)))))))) (ok_t_n (ok_t_n (ok_t_n (ok_t_n (ok_t_n (ok_t_l (ok_bipush dX4_init_85 rfl)) (ok_t_l (ok_newint dX4_init_87 w_614))) (ok_t_n (ok_t_l (ok_putfieldF dX4_init_89 (ci := 4) (kf := 10) rfl inGX4 (by decide) tyX4_ok nmX4 rfl w_1062 rfl rfl rfl)) (ok_t_n (ok_t_l (ok_aload_n dX4_init_92 rfl)) (ok_t_l (ok_bipush dX4_init_93 rfl))))) (ok_t_n (ok_t_n (ok_t_l (ok_newint dX4_init_95 w_614)) (ok_t_n (ok_t_l (ok_putfieldF dX4_init_97 (ci := 4) (kf := 11) rfl inGX4 (by decide) tyX4_ok nmX4 rfl w_1063 rfl rfl rfl)) (ok_t_l (ok_aload_n dX4_init_100 rfl)))) (ok_t_n (ok_t_l (ok_iconst dX4_init_101 rfl)) (ok_t_n (ok_t_l (ok_putfield dX4_init_102 (ci := 4) (kf := 12) rfl inGX4 (by decide) tyX4_ok nmX4 rfl w_1064 rfl)) (ok_t_l (ok_aload_n dX4_init_105 rfl)))))) (ok_t_n (ok_t_n (ok_t_n (ok_t_l (ok_iconst dX4_init_106 rfl)) (ok_t_l (ok_putfield dX4_init_107 (ci := 4) (kf := 13) rfl inGX4 (by decide) tyX4_ok nmX4 rfl w_1065 rfl))) (ok_t_n (ok_t_l (ok_aload_n dX4_init_110 rfl)) (ok_t_n (ok_t_l (ok_iconst dX4_init_111 rfl)) (ok_t_l (ok_putfield dX4_init_112 (ci := 4) (kf := 14) rfl inGX4 (by decide) tyX4_ok nmX4 rfl w_1066 rfl))))) (ok_t_n (ok_t_n (ok_t_l (ok_aload_n dX4_init_115 rfl)) (ok_t_n (ok_t_l (ok_iconst dX4_init_116 rfl)) (ok_t_l (ok_putfield dX4_init_117 (ci := 4) (kf := 15) rfl inGX4 (by decide) tyX4_ok nmX4 rfl w_1067 rfl)))) (ok_t_n (ok_t_l (ok_iconst dX4_init_120 rfl)) (ok_t_n (ok_t_l (ok_istore_n dX4_init_121 rfl)) (ok_t_l (ok_iload_n dX4_init_122 rfl))))))) (ok_t_n (ok_t_n (ok_t_n (ok_t_n (ok_t_l (ok_bipush dX4_init_123 rfl)) (ok_t_l (ok_icmp_ge dX4_init_125 rfl))) (ok_t_n (ok_t_l (ok_aload_n dX4_init_128 rfl)) (ok_t_n (ok_t_l (ok_getfield dX4_init_129 (ci := 4) (kf := 6) rfl inGX4 (by decide) w_1058)) (ok_t_l (ok_iload_n dX4_init_132 rfl))))) (ok_t_n (ok_t_n (ok_t_l (ok_iconst dX4_init_133 rfl)) (ok_t_n (ok_t_l (ok_iastore dX4_init_134)) (ok_t_l (ok_iinc dX4_init_135 rfl)))) (ok_t_n (ok_t_l (ok_goto dX4_init_138 rfl)) (ok_t_n (ok_t_l (ok_iconst dX4_init_141 rfl)) (ok_t_l (ok_istore_n dX4_init_142 rfl)))))) (ok_t_n (ok_t_n (ok_t_n (ok_t_l (ok_iload_n dX4_init_143 rfl)) (ok_t_l (ok_bipush dX4_init_144 rfl))) (ok_t_n (ok_t_l (ok_icmp_ge dX4_init_146 rfl)) (ok_t_n (ok_t_l (ok_aload_n dX4_init_149 rfl)) (ok_t_l (ok_getfield dX4_init_150 (ci := 4) (kf := 7) rfl inGX4 (by decide) w_1059))))) (ok_t_n (ok_t_n (ok_t_l (ok_iload_n dX4_init_153 rfl)) (ok_t_n (ok_t_l (ok_iconst dX4_init_154 rfl)) (ok_t_l (ok_iastore dX4_init_155)))) (ok_t_n (ok_t_l (ok_iinc dX4_init_156 rfl)) (ok_t_n (ok_t_l (ok_goto dX4_init_159 rfl)) (ok_t_l (ok_vreturn dX4_init_162)))))))))
theorem dX4_count_0 : decode cX4_count 0 = .ok (.aload_n 0, 1) := by decide +kernel
theorem dX4_count_1 : decode cX4_count 1 = .ok (.getfield 52, 3) := by decide +kernel
theorem dX4_count_4 : decode cX4_count 4 = .ok (.ireturn, 1) := by decide +kernel
def g_X4_count : Nat → EA := (t_n 1 (t_l 0 (a_aload 1 0)) (t_n 4 (t_l 1 (a_getf 4 13)) (t_l 4 a_iret)))
set_option maxRecDepth 100000 in
theorem k_X4_count (sc : Nat × (Nat → Int32)) (d : Nat) : ∀ pc, ev_Ok cX4_count 1 [] RX4 lw_g lw_n (lw_q sc) vwCl false (ev_CO mt lw_g lw_n (lw_q sc) vwCl d) pc (g_X4_count pc) := (ok_t_n (ok_t_l (ok_aload_n dX4_count_0 rfl)) (ok_t_n (ok_t_l (ok_getfield dX4_count_1 (ci := 4) (kf := 13) rfl inGX4 (by decide) w_1065)) (ok_t_l (ok_ireturn dX4_count_4))))
theorem dX4_isFull_0 : decode cX4_isFull 0 = .ok (.aload_n 0, 1) := by decide +kernel
theorem dX4_isFull_1 : decode cX4_isFull 1 = .ok (.getfield 52, 3) := by decide +kernel
theorem dX4_isFull_4 : decode cX4_isFull 4 = .ok (.bipush 6, 2) := by decide +kernel
theorem dX4_isFull_6 : decode cX4_isFull 6 = .ok (.if_icmp .lt 7, 3) := by decide +kernel
theorem dX4_isFull_9 : decode cX4_isFull 9 = .ok (.iconst 1, 1) := by decide +kernel
theorem dX4_isFull_10 : decode cX4_isFull 10 = .ok (.goto 4, 3) := by decide +kernel
theorem dX4_isFull_13 : decode cX4_isFull 13 = .ok (.iconst 0, 1) := by decide +kernel
theorem dX4_isFull_14 : decode cX4_isFull 14 = .ok (.ireturn, 1) := by decide +kernel
def g_X4_isFull : Nat → EA := (t_n 9 (t_n 4 (t_n 1 (t_l 0 (a_aload 1 0)) (t_l 1 (a_getf 4 13))) (t_n 6 (t_l 4 (a_push 2 (.int 6))) (t_l 6 (a_ic 13 (fun x y => decide (x < y)))))) (t_n 13 (t_n 10 (t_l 9 (a_push 1 (.int 1))) (t_l 10 (a_goto 14))) (t_n 14 (t_l 13 (a_push 1 (.int 0))) (t_l 14 a_iret))))
set_option maxRecDepth 100000 in
theorem k_X4_isFull (sc : Nat × (Nat → Int32)) (d : Nat) : ∀ pc, ev_Ok cX4_isFull 1 [] RX4 lw_g lw_n (lw_q sc) vwCl false (ev_CO mt lw_g lw_n (lw_q sc) vwCl d) pc (g_X4_isFull pc) := (ok_t_n (ok_t_n (ok_t_n (ok_t_l (ok_aload_n dX4_isFull_0 rfl)) (ok_t_l (ok_getfield dX4_isFull_1 (ci := 4) (kf := 13) rfl inGX4 (by decide) w_1065))) (ok_t_n (ok_t_l (ok_bipush dX4_isFull_4 rfl)) (ok_t_l (ok_icmp_lt dX4_isFull_6 rfl)))) (ok_t_n (ok_t_n (ok_t_l (ok_iconst dX4_isFull_9 rfl)) (ok_t_l (ok_goto dX4_isFull_10 rfl))) (ok_t_n (ok_t_l (ok_iconst dX4_isFull_13 rfl)) (ok_t_l (ok_ireturn dX4_isFull_14)))))
theorem dX4_has_0 : decode cX4_has 0 = .ok (.iload_n 1, 1) := by decide +kernel
theorem dX4_has_1 : decode cX4_has 1 = .ok (.ifCond .lt 21, 3) := by decide +kernel
theorem dX4_has_4 : decode cX4_has 4 = .ok (.iload_n 1, 1) := by decide +kernel
theorem dX4_has_5 : decode cX4_has 5 = .ok (.aload_n 0, 1) := by decide +kernel
theorem dX4_has_6 : decode cX4_has 6 = .ok (.getfield 52, 3) := by decide +kernel
theorem dX4_has_9 : decode cX4_has 9 = .ok (.if_icmp .ge 13, 3) := by decide +kernel
theorem dX4_has_12 : decode cX4_has 12 = .ok (.iload_n 1, 1) := by decide +kernel
theorem dX4_has_13 : decode cX4_has 13 = .ok (.bipush 6, 2) := by decide +kernel
theorem dX4_has_15 : decode cX4_has 15 = .ok (.if_icmp .ge 7, 3) := by decide +kernel
theorem dX4_has_18 : decode cX4_has 18 = .ok (.iconst 1, 1) := by decide +kernel
theorem dX4_has_19 : decode cX4_has 19 = .ok (.goto 4, 3) := by decide +kernel
theorem dX4_has_22 : decode cX4_has 22 = .ok (.iconst 0, 1) := by decide +kernel
theorem dX4_has_23 : decode cX4_has 23 = .ok (.ireturn, 1) := by decide +kernel
def g_X4_has : Nat → EA := (t_n 12 (t_n 5 (t_n 1 (t_l 0 (a_iload 1 1)) (t_n 4 (t_l 1 (a_if 22 (fun x => decide (x < 0)))) (t_l 4 (a_iload 1 1)))) (t_n 6 (t_l 5 (a_aload 1 0)) (t_n 9 (t_l 6 (a_getf 4 13)) (t_l 9 (a_ic 22 (fun x y => decide (y ≤ x))))))) (t_n 18 (t_n 13 (t_l 12 (a_iload 1 1)) (t_n 15 (t_l 13 (a_push 2 (.int 6))) (t_l 15 (a_ic 22 (fun x y => decide (y ≤ x)))))) (t_n 22 (t_n 19 (t_l 18 (a_push 1 (.int 1))) (t_l 19 (a_goto 23))) (t_n 23 (t_l 22 (a_push 1 (.int 0))) (t_l 23 a_iret)))))
set_option maxRecDepth 100000 in
theorem k_X4_has (sc : Nat × (Nat → Int32)) (d : Nat) : ∀ pc, ev_Ok cX4_has 2 [] RX4 lw_g lw_n (lw_q sc) vwCl false (ev_CO mt lw_g lw_n (lw_q sc) vwCl d) pc (g_X4_has pc) := (ok_t_n (ok_t_n (ok_t_n (ok_t_l (ok_iload_n dX4_has_0 rfl)) (ok_t_n (ok_t_l (ok_if_lt dX4_has_1 rfl)) (ok_t_l (ok_iload_n dX4_has_4 rfl)))) (ok_t_n (ok_t_l (ok_aload_n dX4_has_5 rfl)) (ok_t_n (ok_t_l (ok_getfield dX4_has_6 (ci := 4) (kf := 13) rfl inGX4 (by decide) w_1065)) (ok_t_l (ok_icmp_ge dX4_has_9 rfl))))) (ok_t_n (ok_t_n (ok_t_l (ok_iload_n dX4_has_12 rfl)) (ok_t_n (ok_t_l (ok_bipush dX4_has_13 rfl)) (ok_t_l (ok_icmp_ge dX4_has_15 rfl)))) (ok_t_n (ok_t_n (ok_t_l (ok_iconst dX4_has_18 rfl)) (ok_t_l (ok_goto dX4_has_19 rfl))) (ok_t_n (ok_t_l (ok_iconst dX4_has_22 rfl)) (ok_t_l (ok_ireturn dX4_has_23))))))
theorem dX4_size_0 : decode cX4_size 0 = .ok (.aload_n 0, 1) := by decide +kernel
theorem dX4_size_1 : decode cX4_size 1 = .ok (.iload_n 1, 1) := by decide +kernel
theorem dX4_size_2 : decode cX4_size 2 = .ok (.invokevirtual 61, 3) := by decide +kernel
theorem dX4_size_5 : decode cX4_size 5 = .ok (.ifCond .eq 12, 3) := by decide +kernel
theorem dX4_size_8 : decode cX4_size 8 = .ok (.aload_n 0, 1) := by decide +kernel
theorem dX4_size_9 : decode cX4_size 9 = .ok (.getfield 9, 3) := by decide +kernel
theorem dX4_size_12 : decode cX4_size 12 = .ok (.iload_n 1, 1) := by decide +kernel
theorem dX4_size_13 : decode cX4_size 13 = .ok (.iaload, 1) := by decide +kernel
theorem dX4_size_14 : decode cX4_size 14 = .ok (.goto 4, 3) := by decide +kernel
theorem dX4_size_17 : decode cX4_size 17 = .ok (.iconst 0, 1) := by decide +kernel
theorem dX4_size_18 : decode cX4_size 18 = .ok (.ireturn, 1) := by decide +kernel
def g_X4_size : Nat → EA := (t_n 9 (t_n 2 (t_n 1 (t_l 0 (a_aload 1 0)) (t_l 1 (a_iload 1 1))) (t_n 5 (t_l 2 (a_inv true 43 2 (some 4))) (t_n 8 (t_l 5 (a_if 17 (fun x => decide (x = 0)))) (t_l 8 (a_aload 1 0))))) (t_n 14 (t_n 12 (t_l 9 (a_getf 4 0)) (t_n 13 (t_l 12 (a_iload 1 1)) (t_l 13 (a_ild 0)))) (t_n 17 (t_l 14 (a_goto 18)) (t_n 18 (t_l 17 (a_push 1 (.int 0))) (t_l 18 a_iret)))))
set_option maxRecDepth 100000 in
theorem k_X4_size (sc : Nat × (Nat → Int32)) (d : Nat) : ∀ pc, ev_Ok cX4_size 2 [] RX4 lw_g lw_n (lw_q sc) vwCl false (ev_CO mt lw_g lw_n (lw_q sc) vwCl d) pc (g_X4_size pc) := (ok_t_n (ok_t_n (ok_t_n (ok_t_l (ok_aload_n dX4_size_0 rfl)) (ok_t_l (ok_iload_n dX4_size_1 rfl))) (ok_t_n (ok_t_l (ok_inv (run_V (y := 43) (n := 1) (ci := 4) dX4_size_2 cz_43 gdG cc_43 ci_43 w_696 cm_43 cs_43 cd_43 cl_43 rfl rfl))) (ok_t_n (ok_t_l (ok_if_eq dX4_size_5 rfl)) (ok_t_l (ok_aload_n dX4_size_8 rfl))))) (ok_t_n (ok_t_n (ok_t_l (ok_getfield dX4_size_9 (ci := 4) (kf := 0) rfl inGX4 (by decide) w_1052)) (ok_t_n (ok_t_l (ok_iload_n dX4_size_12 rfl)) (ok_t_l (ok_iaload dX4_size_13)))) (ok_t_n (ok_t_l (ok_goto dX4_size_14 rfl)) (ok_t_n (ok_t_l (ok_iconst dX4_size_17 rfl)) (ok_t_l (ok_ireturn dX4_size_18))))))
theorem dX4_needs_0 : decode cX4_needs 0 = .ok (.aload_n 0, 1) := by decide +kernel
theorem dX4_needs_1 : decode cX4_needs 1 = .ok (.iload_n 1, 1) := by decide +kernel
theorem dX4_needs_2 : decode cX4_needs 2 = .ok (.invokevirtual 61, 3) := by decide +kernel
theorem dX4_needs_5 : decode cX4_needs 5 = .ok (.ifCond .eq 12, 3) := by decide +kernel
theorem dX4_needs_8 : decode cX4_needs 8 = .ok (.aload_n 0, 1) := by decide +kernel
theorem dX4_needs_9 : decode cX4_needs 9 = .ok (.getfield 15, 3) := by decide +kernel
theorem dX4_needs_12 : decode cX4_needs 12 = .ok (.iload_n 1, 1) := by decide +kernel
theorem dX4_needs_13 : decode cX4_needs 13 = .ok (.iaload, 1) := by decide +kernel
theorem dX4_needs_14 : decode cX4_needs 14 = .ok (.goto 4, 3) := by decide +kernel
theorem dX4_needs_17 : decode cX4_needs 17 = .ok (.iconst 0, 1) := by decide +kernel
theorem dX4_needs_18 : decode cX4_needs 18 = .ok (.ireturn, 1) := by decide +kernel
def g_X4_needs : Nat → EA := (t_n 9 (t_n 2 (t_n 1 (t_l 0 (a_aload 1 0)) (t_l 1 (a_iload 1 1))) (t_n 5 (t_l 2 (a_inv true 43 2 (some 4))) (t_n 8 (t_l 5 (a_if 17 (fun x => decide (x = 0)))) (t_l 8 (a_aload 1 0))))) (t_n 14 (t_n 12 (t_l 9 (a_getf 4 1)) (t_n 13 (t_l 12 (a_iload 1 1)) (t_l 13 (a_ild 0)))) (t_n 17 (t_l 14 (a_goto 18)) (t_n 18 (t_l 17 (a_push 1 (.int 0))) (t_l 18 a_iret)))))
set_option maxRecDepth 100000 in
theorem k_X4_needs (sc : Nat × (Nat → Int32)) (d : Nat) : ∀ pc, ev_Ok cX4_needs 2 [] RX4 lw_g lw_n (lw_q sc) vwCl false (ev_CO mt lw_g lw_n (lw_q sc) vwCl d) pc (g_X4_needs pc) := (ok_t_n (ok_t_n (ok_t_n (ok_t_l (ok_aload_n dX4_needs_0 rfl)) (ok_t_l (ok_iload_n dX4_needs_1 rfl))) (ok_t_n (ok_t_l (ok_inv (run_V (y := 43) (n := 1) (ci := 4) dX4_needs_2 cz_43 gdG cc_43 ci_43 w_696 cm_43 cs_43 cd_43 cl_43 rfl rfl))) (ok_t_n (ok_t_l (ok_if_eq dX4_needs_5 rfl)) (ok_t_l (ok_aload_n dX4_needs_8 rfl))))) (ok_t_n (ok_t_n (ok_t_l (ok_getfield dX4_needs_9 (ci := 4) (kf := 1) rfl inGX4 (by decide) w_1053)) (ok_t_n (ok_t_l (ok_iload_n dX4_needs_12 rfl)) (ok_t_l (ok_iaload dX4_needs_13)))) (ok_t_n (ok_t_l (ok_goto dX4_needs_14 rfl)) (ok_t_n (ok_t_l (ok_iconst dX4_needs_17 rfl)) (ok_t_l (ok_ireturn dX4_needs_18))))))
theorem dX4_exports_0 : decode cX4_exports 0 = .ok (.aload_n 0, 1) := by decide +kernel
theorem dX4_exports_1 : decode cX4_exports 1 = .ok (.iload_n 1, 1) := by decide +kernel
theorem dX4_exports_2 : decode cX4_exports 2 = .ok (.invokevirtual 61, 3) := by decide +kernel
theorem dX4_exports_5 : decode cX4_exports 5 = .ok (.ifCond .eq 12, 3) := by decide +kernel
theorem dX4_exports_8 : decode cX4_exports 8 = .ok (.aload_n 0, 1) := by decide +kernel
theorem dX4_exports_9 : decode cX4_exports 9 = .ok (.getfield 18, 3) := by decide +kernel
theorem dX4_exports_12 : decode cX4_exports 12 = .ok (.iload_n 1, 1) := by decide +kernel
theorem dX4_exports_13 : decode cX4_exports 13 = .ok (.iaload, 1) := by decide +kernel
theorem dX4_exports_14 : decode cX4_exports 14 = .ok (.goto 4, 3) := by decide +kernel
theorem dX4_exports_17 : decode cX4_exports 17 = .ok (.iconst 0, 1) := by decide +kernel
theorem dX4_exports_18 : decode cX4_exports 18 = .ok (.ireturn, 1) := by decide +kernel
def g_X4_exports : Nat → EA := (t_n 9 (t_n 2 (t_n 1 (t_l 0 (a_aload 1 0)) (t_l 1 (a_iload 1 1))) (t_n 5 (t_l 2 (a_inv true 43 2 (some 4))) (t_n 8 (t_l 5 (a_if 17 (fun x => decide (x = 0)))) (t_l 8 (a_aload 1 0))))) (t_n 14 (t_n 12 (t_l 9 (a_getf 4 2)) (t_n 13 (t_l 12 (a_iload 1 1)) (t_l 13 (a_ild 0)))) (t_n 17 (t_l 14 (a_goto 18)) (t_n 18 (t_l 17 (a_push 1 (.int 0))) (t_l 18 a_iret)))))
set_option maxRecDepth 100000 in
theorem k_X4_exports (sc : Nat × (Nat → Int32)) (d : Nat) : ∀ pc, ev_Ok cX4_exports 2 [] RX4 lw_g lw_n (lw_q sc) vwCl false (ev_CO mt lw_g lw_n (lw_q sc) vwCl d) pc (g_X4_exports pc) := (ok_t_n (ok_t_n (ok_t_n (ok_t_l (ok_aload_n dX4_exports_0 rfl)) (ok_t_l (ok_iload_n dX4_exports_1 rfl))) (ok_t_n (ok_t_l (ok_inv (run_V (y := 43) (n := 1) (ci := 4) dX4_exports_2 cz_43 gdG cc_43 ci_43 w_696 cm_43 cs_43 cd_43 cl_43 rfl rfl))) (ok_t_n (ok_t_l (ok_if_eq dX4_exports_5 rfl)) (ok_t_l (ok_aload_n dX4_exports_8 rfl))))) (ok_t_n (ok_t_n (ok_t_l (ok_getfield dX4_exports_9 (ci := 4) (kf := 2) rfl inGX4 (by decide) w_1054)) (ok_t_n (ok_t_l (ok_iload_n dX4_exports_12 rfl)) (ok_t_l (ok_iaload dX4_exports_13)))) (ok_t_n (ok_t_l (ok_goto dX4_exports_14 rfl)) (ok_t_n (ok_t_l (ok_iconst dX4_exports_17 rfl)) (ok_t_l (ok_ireturn dX4_exports_18))))))
theorem dX4_imports_0 : decode cX4_imports 0 = .ok (.aload_n 0, 1) := by decide +kernel
theorem dX4_imports_1 : decode cX4_imports 1 = .ok (.iload_n 1, 1) := by decide +kernel
theorem dX4_imports_2 : decode cX4_imports 2 = .ok (.invokevirtual 61, 3) := by decide +kernel
theorem dX4_imports_5 : decode cX4_imports 5 = .ok (.ifCond .eq 12, 3) := by decide +kernel
theorem dX4_imports_8 : decode cX4_imports 8 = .ok (.aload_n 0, 1) := by decide +kernel
theorem dX4_imports_9 : decode cX4_imports 9 = .ok (.getfield 21, 3) := by decide +kernel
theorem dX4_imports_12 : decode cX4_imports 12 = .ok (.iload_n 1, 1) := by decide +kernel
theorem dX4_imports_13 : decode cX4_imports 13 = .ok (.iaload, 1) := by decide +kernel
theorem dX4_imports_14 : decode cX4_imports 14 = .ok (.goto 4, 3) := by decide +kernel
theorem dX4_imports_17 : decode cX4_imports 17 = .ok (.iconst 0, 1) := by decide +kernel
theorem dX4_imports_18 : decode cX4_imports 18 = .ok (.ireturn, 1) := by decide +kernel
def g_X4_imports : Nat → EA := (t_n 9 (t_n 2 (t_n 1 (t_l 0 (a_aload 1 0)) (t_l 1 (a_iload 1 1))) (t_n 5 (t_l 2 (a_inv true 43 2 (some 4))) (t_n 8 (t_l 5 (a_if 17 (fun x => decide (x = 0)))) (t_l 8 (a_aload 1 0))))) (t_n 14 (t_n 12 (t_l 9 (a_getf 4 3)) (t_n 13 (t_l 12 (a_iload 1 1)) (t_l 13 (a_ild 0)))) (t_n 17 (t_l 14 (a_goto 18)) (t_n 18 (t_l 17 (a_push 1 (.int 0))) (t_l 18 a_iret)))))
set_option maxRecDepth 100000 in
theorem k_X4_imports (sc : Nat × (Nat → Int32)) (d : Nat) : ∀ pc, ev_Ok cX4_imports 2 [] RX4 lw_g lw_n (lw_q sc) vwCl false (ev_CO mt lw_g lw_n (lw_q sc) vwCl d) pc (g_X4_imports pc) := (ok_t_n (ok_t_n (ok_t_n (ok_t_l (ok_aload_n dX4_imports_0 rfl)) (ok_t_l (ok_iload_n dX4_imports_1 rfl))) (ok_t_n (ok_t_l (ok_inv (run_V (y := 43) (n := 1) (ci := 4) dX4_imports_2 cz_43 gdG cc_43 ci_43 w_696 cm_43 cs_43 cd_43 cl_43 rfl rfl))) (ok_t_n (ok_t_l (ok_if_eq dX4_imports_5 rfl)) (ok_t_l (ok_aload_n dX4_imports_8 rfl))))) (ok_t_n (ok_t_n (ok_t_l (ok_getfield dX4_imports_9 (ci := 4) (kf := 3) rfl inGX4 (by decide) w_1055)) (ok_t_n (ok_t_l (ok_iload_n dX4_imports_12 rfl)) (ok_t_l (ok_iaload dX4_imports_13)))) (ok_t_n (ok_t_l (ok_goto dX4_imports_14 rfl)) (ok_t_n (ok_t_l (ok_iconst dX4_imports_17 rfl)) (ok_t_l (ok_ireturn dX4_imports_18))))))
theorem dX4_opened_0 : decode cX4_opened 0 = .ok (.aload_n 0, 1) := by decide +kernel
theorem dX4_opened_1 : decode cX4_opened 1 = .ok (.iload_n 1, 1) := by decide +kernel
theorem dX4_opened_2 : decode cX4_opened 2 = .ok (.invokevirtual 61, 3) := by decide +kernel
theorem dX4_opened_5 : decode cX4_opened 5 = .ok (.ifCond .eq 12, 3) := by decide +kernel
theorem dX4_opened_8 : decode cX4_opened 8 = .ok (.aload_n 0, 1) := by decide +kernel
theorem dX4_opened_9 : decode cX4_opened 9 = .ok (.getfield 27, 3) := by decide +kernel
theorem dX4_opened_12 : decode cX4_opened 12 = .ok (.iload_n 1, 1) := by decide +kernel
theorem dX4_opened_13 : decode cX4_opened 13 = .ok (.iaload, 1) := by decide +kernel
theorem dX4_opened_14 : decode cX4_opened 14 = .ok (.goto 4, 3) := by decide +kernel
theorem dX4_opened_17 : decode cX4_opened 17 = .ok (.iconst 0, 1) := by decide +kernel
theorem dX4_opened_18 : decode cX4_opened 18 = .ok (.ireturn, 1) := by decide +kernel
def g_X4_opened : Nat → EA := (t_n 9 (t_n 2 (t_n 1 (t_l 0 (a_aload 1 0)) (t_l 1 (a_iload 1 1))) (t_n 5 (t_l 2 (a_inv true 43 2 (some 4))) (t_n 8 (t_l 5 (a_if 17 (fun x => decide (x = 0)))) (t_l 8 (a_aload 1 0))))) (t_n 14 (t_n 12 (t_l 9 (a_getf 4 5)) (t_n 13 (t_l 12 (a_iload 1 1)) (t_l 13 (a_ild 0)))) (t_n 17 (t_l 14 (a_goto 18)) (t_n 18 (t_l 17 (a_push 1 (.int 0))) (t_l 18 a_iret)))))
set_option maxRecDepth 100000 in
theorem k_X4_opened (sc : Nat × (Nat → Int32)) (d : Nat) : ∀ pc, ev_Ok cX4_opened 2 [] RX4 lw_g lw_n (lw_q sc) vwCl false (ev_CO mt lw_g lw_n (lw_q sc) vwCl d) pc (g_X4_opened pc) := (ok_t_n (ok_t_n (ok_t_n (ok_t_l (ok_aload_n dX4_opened_0 rfl)) (ok_t_l (ok_iload_n dX4_opened_1 rfl))) (ok_t_n (ok_t_l (ok_inv (run_V (y := 43) (n := 1) (ci := 4) dX4_opened_2 cz_43 gdG cc_43 ci_43 w_696 cm_43 cs_43 cd_43 cl_43 rfl rfl))) (ok_t_n (ok_t_l (ok_if_eq dX4_opened_5 rfl)) (ok_t_l (ok_aload_n dX4_opened_8 rfl))))) (ok_t_n (ok_t_n (ok_t_l (ok_getfield dX4_opened_9 (ci := 4) (kf := 5) rfl inGX4 (by decide) w_1057)) (ok_t_n (ok_t_l (ok_iload_n dX4_opened_12 rfl)) (ok_t_l (ok_iaload dX4_opened_13)))) (ok_t_n (ok_t_l (ok_goto dX4_opened_14 rfl)) (ok_t_n (ok_t_l (ok_iconst dX4_opened_17 rfl)) (ok_t_l (ok_ireturn dX4_opened_18))))))
theorem dX4_base_0 : decode cX4_base 0 = .ok (.aload_n 0, 1) := by decide +kernel
theorem dX4_base_1 : decode cX4_base 1 = .ok (.iload_n 1, 1) := by decide +kernel
theorem dX4_base_2 : decode cX4_base 2 = .ok (.invokevirtual 61, 3) := by decide +kernel
theorem dX4_base_5 : decode cX4_base 5 = .ok (.ifCond .eq 12, 3) := by decide +kernel
theorem dX4_base_8 : decode cX4_base 8 = .ok (.aload_n 0, 1) := by decide +kernel
theorem dX4_base_9 : decode cX4_base 9 = .ok (.getfield 30, 3) := by decide +kernel
theorem dX4_base_12 : decode cX4_base 12 = .ok (.iload_n 1, 1) := by decide +kernel
theorem dX4_base_13 : decode cX4_base 13 = .ok (.iaload, 1) := by decide +kernel
theorem dX4_base_14 : decode cX4_base 14 = .ok (.goto 4, 3) := by decide +kernel
theorem dX4_base_17 : decode cX4_base 17 = .ok (.iconst (-1), 1) := by decide +kernel
theorem dX4_base_18 : decode cX4_base 18 = .ok (.ireturn, 1) := by decide +kernel
def g_X4_base : Nat → EA := (t_n 9 (t_n 2 (t_n 1 (t_l 0 (a_aload 1 0)) (t_l 1 (a_iload 1 1))) (t_n 5 (t_l 2 (a_inv true 43 2 (some 4))) (t_n 8 (t_l 5 (a_if 17 (fun x => decide (x = 0)))) (t_l 8 (a_aload 1 0))))) (t_n 14 (t_n 12 (t_l 9 (a_getf 4 6)) (t_n 13 (t_l 12 (a_iload 1 1)) (t_l 13 (a_ild 0)))) (t_n 17 (t_l 14 (a_goto 18)) (t_n 18 (t_l 17 (a_push 1 (.int (-1)))) (t_l 18 a_iret)))))
set_option maxRecDepth 100000 in
theorem k_X4_base (sc : Nat × (Nat → Int32)) (d : Nat) : ∀ pc, ev_Ok cX4_base 2 [] RX4 lw_g lw_n (lw_q sc) vwCl false (ev_CO mt lw_g lw_n (lw_q sc) vwCl d) pc (g_X4_base pc) := (ok_t_n (ok_t_n (ok_t_n (ok_t_l (ok_aload_n dX4_base_0 rfl)) (ok_t_l (ok_iload_n dX4_base_1 rfl))) (ok_t_n (ok_t_l (ok_inv (run_V (y := 43) (n := 1) (ci := 4) dX4_base_2 cz_43 gdG cc_43 ci_43 w_696 cm_43 cs_43 cd_43 cl_43 rfl rfl))) (ok_t_n (ok_t_l (ok_if_eq dX4_base_5 rfl)) (ok_t_l (ok_aload_n dX4_base_8 rfl))))) (ok_t_n (ok_t_n (ok_t_l (ok_getfield dX4_base_9 (ci := 4) (kf := 6) rfl inGX4 (by decide) w_1058)) (ok_t_n (ok_t_l (ok_iload_n dX4_base_12 rfl)) (ok_t_l (ok_iaload dX4_base_13)))) (ok_t_n (ok_t_l (ok_goto dX4_base_14 rfl)) (ok_t_n (ok_t_l (ok_iconst dX4_base_17 rfl)) (ok_t_l (ok_ireturn dX4_base_18))))))
theorem dX4_isLoaded_0 : decode cX4_isLoaded 0 = .ok (.aload_n 0, 1) := by decide +kernel
theorem dX4_isLoaded_1 : decode cX4_isLoaded 1 = .ok (.iload_n 1, 1) := by decide +kernel
theorem dX4_isLoaded_2 : decode cX4_isLoaded 2 = .ok (.invokevirtual 65, 3) := by decide +kernel
theorem dX4_isLoaded_5 : decode cX4_isLoaded 5 = .ok (.iconst (-1), 1) := by decide +kernel
theorem dX4_isLoaded_6 : decode cX4_isLoaded 6 = .ok (.if_icmp .eq 7, 3) := by decide +kernel
theorem dX4_isLoaded_9 : decode cX4_isLoaded 9 = .ok (.iconst 1, 1) := by decide +kernel
theorem dX4_isLoaded_10 : decode cX4_isLoaded 10 = .ok (.goto 4, 3) := by decide +kernel
theorem dX4_isLoaded_13 : decode cX4_isLoaded 13 = .ok (.iconst 0, 1) := by decide +kernel
theorem dX4_isLoaded_14 : decode cX4_isLoaded 14 = .ok (.ireturn, 1) := by decide +kernel
def g_X4_isLoaded : Nat → EA := (t_n 6 (t_n 2 (t_n 1 (t_l 0 (a_aload 1 0)) (t_l 1 (a_iload 1 1))) (t_n 5 (t_l 2 (a_inv true 49 2 (some 4))) (t_l 5 (a_push 1 (.int (-1)))))) (t_n 10 (t_n 9 (t_l 6 (a_ic 13 (fun x y => decide (x = y)))) (t_l 9 (a_push 1 (.int 1)))) (t_n 13 (t_l 10 (a_goto 14)) (t_n 14 (t_l 13 (a_push 1 (.int 0))) (t_l 14 a_iret)))))
set_option maxRecDepth 100000 in
theorem k_X4_isLoaded (sc : Nat × (Nat → Int32)) (d : Nat) : ∀ pc, ev_Ok cX4_isLoaded 2 [] RX4 lw_g lw_n (lw_q sc) vwCl false (ev_CO mt lw_g lw_n (lw_q sc) vwCl d) pc (g_X4_isLoaded pc) := (ok_t_n (ok_t_n (ok_t_n (ok_t_l (ok_aload_n dX4_isLoaded_0 rfl)) (ok_t_l (ok_iload_n dX4_isLoaded_1 rfl))) (ok_t_n (ok_t_l (ok_inv (run_V (y := 49) (n := 1) (ci := 4) dX4_isLoaded_2 cz_49 gdG cc_49 ci_49 w_711 cm_49 cs_49 cd_49 cl_49 rfl rfl))) (ok_t_l (ok_iconst dX4_isLoaded_5 rfl)))) (ok_t_n (ok_t_n (ok_t_l (ok_icmp_eq dX4_isLoaded_6 rfl)) (ok_t_l (ok_iconst dX4_isLoaded_9 rfl))) (ok_t_n (ok_t_l (ok_goto dX4_isLoaded_10 rfl)) (ok_t_n (ok_t_l (ok_iconst dX4_isLoaded_13 rfl)) (ok_t_l (ok_ireturn dX4_isLoaded_14))))))
theorem dX4_isExport_0 : decode cX4_isExport 0 = .ok (.iload_n 2, 1) := by decide +kernel
theorem dX4_isExport_1 : decode cX4_isExport 1 = .ok (.invokestatic 69, 3) := by decide +kernel
theorem dX4_isExport_4 : decode cX4_isExport 4 = .ok (.ifCond .eq 19, 3) := by decide +kernel
theorem dX4_isExport_7 : decode cX4_isExport 7 = .ok (.aload_n 0, 1) := by decide +kernel
theorem dX4_isExport_8 : decode cX4_isExport 8 = .ok (.iload_n 1, 1) := by decide +kernel
theorem dX4_isExport_9 : decode cX4_isExport 9 = .ok (.invokevirtual 72, 3) := by decide +kernel
theorem dX4_isExport_12 : decode cX4_isExport 12 = .ok (.iload_n 2, 1) := by decide +kernel
theorem dX4_isExport_13 : decode cX4_isExport 13 = .ok (.invokestatic 75, 3) := by decide +kernel
theorem dX4_isExport_16 : decode cX4_isExport 16 = .ok (.ifCond .eq 7, 3) := by decide +kernel
theorem dX4_isExport_19 : decode cX4_isExport 19 = .ok (.iconst 1, 1) := by decide +kernel
theorem dX4_isExport_20 : decode cX4_isExport 20 = .ok (.goto 4, 3) := by decide +kernel
theorem dX4_isExport_23 : decode cX4_isExport 23 = .ok (.iconst 0, 1) := by decide +kernel
theorem dX4_isExport_24 : decode cX4_isExport 24 = .ok (.ireturn, 1) := by decide +kernel
def g_X4_isExport : Nat → EA := (t_n 12 (t_n 7 (t_n 1 (t_l 0 (a_iload 1 2)) (t_n 4 (t_l 1 (a_inv false 193 1 none)) (t_l 4 (a_if 23 (fun x => decide (x = 0)))))) (t_n 8 (t_l 7 (a_aload 1 0)) (t_n 9 (t_l 8 (a_iload 1 1)) (t_l 9 (a_inv true 46 2 (some 4)))))) (t_n 19 (t_n 13 (t_l 12 (a_iload 1 2)) (t_n 16 (t_l 13 (a_inv false 196 2 none)) (t_l 16 (a_if 23 (fun x => decide (x = 0)))))) (t_n 23 (t_n 20 (t_l 19 (a_push 1 (.int 1))) (t_l 20 (a_goto 24))) (t_n 24 (t_l 23 (a_push 1 (.int 0))) (t_l 24 a_iret)))))
set_option maxRecDepth 100000 in
theorem k_X4_isExport (sc : Nat × (Nat → Int32)) (d : Nat) : ∀ pc, ev_Ok cX4_isExport 3 [] RX4 lw_g lw_n (lw_q sc) vwCl false (ev_CO mt lw_g lw_n (lw_q sc) vwCl d) pc (g_X4_isExport pc) := (ok_t_n (ok_t_n (ok_t_n (ok_t_l (ok_iload_n dX4_isExport_0 rfl)) (ok_t_n (ok_t_l (ok_inv (run_SN (y := 193) (n := 1) dX4_isExport_1 cz_193 gdG cc_193 ci_193 nst_16 cm_193 cd_193 cl_193))) (ok_t_l (ok_if_eq dX4_isExport_4 rfl)))) (ok_t_n (ok_t_l (ok_aload_n dX4_isExport_7 rfl)) (ok_t_n (ok_t_l (ok_iload_n dX4_isExport_8 rfl)) (ok_t_l (ok_inv (run_V (y := 46) (n := 1) (ci := 4) dX4_isExport_9 cz_46 gdG cc_46 ci_46 w_910 cm_46 cs_46 cd_46 cl_46 rfl rfl)))))) (ok_t_n (ok_t_n (ok_t_l (ok_iload_n dX4_isExport_12 rfl)) (ok_t_n (ok_t_l (ok_inv (run_SN (y := 196) (n := 2) dX4_isExport_13 cz_196 gdG cc_196 ci_196 nst_13 cm_196 cd_196 cl_196))) (ok_t_l (ok_if_eq dX4_isExport_16 rfl)))) (ok_t_n (ok_t_n (ok_t_l (ok_iconst dX4_isExport_19 rfl)) (ok_t_l (ok_goto dX4_isExport_20 rfl))) (ok_t_n (ok_t_l (ok_iconst dX4_isExport_23 rfl)) (ok_t_l (ok_ireturn dX4_isExport_24))))))
theorem dX4_isImport_0 : decode cX4_isImport 0 = .ok (.iload_n 2, 1) := by decide +kernel
theorem dX4_isImport_1 : decode cX4_isImport 1 = .ok (.invokestatic 69, 3) := by decide +kernel
theorem dX4_isImport_4 : decode cX4_isImport 4 = .ok (.ifCond .eq 19, 3) := by decide +kernel
theorem dX4_isImport_7 : decode cX4_isImport 7 = .ok (.aload_n 0, 1) := by decide +kernel
theorem dX4_isImport_8 : decode cX4_isImport 8 = .ok (.iload_n 1, 1) := by decide +kernel
theorem dX4_isImport_9 : decode cX4_isImport 9 = .ok (.invokevirtual 79, 3) := by decide +kernel
theorem dX4_isImport_12 : decode cX4_isImport 12 = .ok (.iload_n 2, 1) := by decide +kernel
theorem dX4_isImport_13 : decode cX4_isImport 13 = .ok (.invokestatic 75, 3) := by decide +kernel
theorem dX4_isImport_16 : decode cX4_isImport 16 = .ok (.ifCond .eq 7, 3) := by decide +kernel
theorem dX4_isImport_19 : decode cX4_isImport 19 = .ok (.iconst 1, 1) := by decide +kernel
theorem dX4_isImport_20 : decode cX4_isImport 20 = .ok (.goto 4, 3) := by decide +kernel
theorem dX4_isImport_23 : decode cX4_isImport 23 = .ok (.iconst 0, 1) := by decide +kernel
theorem dX4_isImport_24 : decode cX4_isImport 24 = .ok (.ireturn, 1) := by decide +kernel
def g_X4_isImport : Nat → EA := (t_n 12 (t_n 7 (t_n 1 (t_l 0 (a_iload 1 2)) (t_n 4 (t_l 1 (a_inv false 193 1 none)) (t_l 4 (a_if 23 (fun x => decide (x = 0)))))) (t_n 8 (t_l 7 (a_aload 1 0)) (t_n 9 (t_l 8 (a_iload 1 1)) (t_l 9 (a_inv true 47 2 (some 4)))))) (t_n 19 (t_n 13 (t_l 12 (a_iload 1 2)) (t_n 16 (t_l 13 (a_inv false 196 2 none)) (t_l 16 (a_if 23 (fun x => decide (x = 0)))))) (t_n 23 (t_n 20 (t_l 19 (a_push 1 (.int 1))) (t_l 20 (a_goto 24))) (t_n 24 (t_l 23 (a_push 1 (.int 0))) (t_l 24 a_iret)))))
set_option maxRecDepth 100000 in
theorem k_X4_isImport (sc : Nat × (Nat → Int32)) (d : Nat) : ∀ pc, ev_Ok cX4_isImport 3 [] RX4 lw_g lw_n (lw_q sc) vwCl false (ev_CO mt lw_g lw_n (lw_q sc) vwCl d) pc (g_X4_isImport pc) := (ok_t_n (ok_t_n (ok_t_n (ok_t_l (ok_iload_n dX4_isImport_0 rfl)) (ok_t_n (ok_t_l (ok_inv (run_SN (y := 193) (n := 1) dX4_isImport_1 cz_193 gdG cc_193 ci_193 nst_16 cm_193 cd_193 cl_193))) (ok_t_l (ok_if_eq dX4_isImport_4 rfl)))) (ok_t_n (ok_t_l (ok_aload_n dX4_isImport_7 rfl)) (ok_t_n (ok_t_l (ok_iload_n dX4_isImport_8 rfl)) (ok_t_l (ok_inv (run_V (y := 47) (n := 1) (ci := 4) dX4_isImport_9 cz_47 gdG cc_47 ci_47 w_915 cm_47 cs_47 cd_47 cl_47 rfl rfl)))))) (ok_t_n (ok_t_n (ok_t_l (ok_iload_n dX4_isImport_12 rfl)) (ok_t_n (ok_t_l (ok_inv (run_SN (y := 196) (n := 2) dX4_isImport_13 cz_196 gdG cc_196 ci_196 nst_13 cm_196 cd_196 cl_196))) (ok_t_l (ok_if_eq dX4_isImport_16 rfl)))) (ok_t_n (ok_t_n (ok_t_l (ok_iconst dX4_isImport_19 rfl)) (ok_t_l (ok_goto dX4_isImport_20 rfl))) (ok_t_n (ok_t_l (ok_iconst dX4_isImport_23 rfl)) (ok_t_l (ok_ireturn dX4_isImport_24))))))
theorem dX4_exportAddress_0 : decode cX4_exportAddress 0 = .ok (.aload_n 0, 1) := by decide +kernel
theorem dX4_exportAddress_1 : decode cX4_exportAddress 1 = .ok (.iload_n 1, 1) := by decide +kernel
theorem dX4_exportAddress_2 : decode cX4_exportAddress 2 = .ok (.iload_n 2, 1) := by decide +kernel
theorem dX4_exportAddress_3 : decode cX4_exportAddress 3 = .ok (.invokevirtual 82, 3) := by decide +kernel
theorem dX4_exportAddress_6 : decode cX4_exportAddress 6 = .ok (.ifCond .eq 25, 3) := by decide +kernel
theorem dX4_exportAddress_9 : decode cX4_exportAddress 9 = .ok (.aload_n 0, 1) := by decide +kernel
theorem dX4_exportAddress_10 : decode cX4_exportAddress 10 = .ok (.iload_n 1, 1) := by decide +kernel
theorem dX4_exportAddress_11 : decode cX4_exportAddress 11 = .ok (.invokevirtual 61, 3) := by decide +kernel
theorem dX4_exportAddress_14 : decode cX4_exportAddress 14 = .ok (.ifCond .eq 17, 3) := by decide +kernel
theorem dX4_exportAddress_17 : decode cX4_exportAddress 17 = .ok (.aload_n 0, 1) := by decide +kernel
theorem dX4_exportAddress_18 : decode cX4_exportAddress 18 = .ok (.getfield 24, 3) := by decide +kernel
theorem dX4_exportAddress_21 : decode cX4_exportAddress 21 = .ok (.iload_n 1, 1) := by decide +kernel
theorem dX4_exportAddress_22 : decode cX4_exportAddress 22 = .ok (.bipush 20, 2) := by decide +kernel
theorem dX4_exportAddress_24 : decode cX4_exportAddress 24 = .ok (.imul, 1) := by decide +kernel
theorem dX4_exportAddress_25 : decode cX4_exportAddress 25 = .ok (.iload_n 2, 1) := by decide +kernel
theorem dX4_exportAddress_26 : decode cX4_exportAddress 26 = .ok (.iadd, 1) := by decide +kernel
theorem dX4_exportAddress_27 : decode cX4_exportAddress 27 = .ok (.iaload, 1) := by decide +kernel
theorem dX4_exportAddress_28 : decode cX4_exportAddress 28 = .ok (.goto 4, 3) := by decide +kernel
theorem dX4_exportAddress_31 : decode cX4_exportAddress 31 = .ok (.iconst (-1), 1) := by decide +kernel
theorem dX4_exportAddress_32 : decode cX4_exportAddress 32 = .ok (.ireturn, 1) := by decide +kernel
def g_X4_exportAddress : Nat → EA := (t_n 18 (t_n 9 (t_n 2 (t_n 1 (t_l 0 (a_aload 1 0)) (t_l 1 (a_iload 1 1))) (t_n 3 (t_l 2 (a_iload 1 2)) (t_n 6 (t_l 3 (a_inv true 51 3 (some 4))) (t_l 6 (a_if 31 (fun x => decide (x = 0))))))) (t_n 11 (t_n 10 (t_l 9 (a_aload 1 0)) (t_l 10 (a_iload 1 1))) (t_n 14 (t_l 11 (a_inv true 43 2 (some 4))) (t_n 17 (t_l 14 (a_if 31 (fun x => decide (x = 0)))) (t_l 17 (a_aload 1 0)))))) (t_n 26 (t_n 22 (t_n 21 (t_l 18 (a_getf 4 4)) (t_l 21 (a_iload 1 1))) (t_n 24 (t_l 22 (a_push 2 (.int 20))) (t_n 25 (t_l 24 (a_ii 1 (fun x y => x * y))) (t_l 25 (a_iload 1 2))))) (t_n 28 (t_n 27 (t_l 26 (a_ii 1 (fun x y => x + y))) (t_l 27 (a_ild 0))) (t_n 31 (t_l 28 (a_goto 32)) (t_n 32 (t_l 31 (a_push 1 (.int (-1)))) (t_l 32 a_iret))))))
set_option maxRecDepth 100000 in
theorem k_X4_exportAddress (sc : Nat × (Nat → Int32)) (d : Nat) : ∀ pc, ev_Ok cX4_exportAddress 3 [] RX4 lw_g lw_n (lw_q sc) vwCl false (ev_CO mt lw_g lw_n (lw_q sc) vwCl d) pc (g_X4_exportAddress pc) := (ok_t_n (ok_t_n (ok_t_n (ok_t_n (ok_t_l (ok_aload_n dX4_exportAddress_0 rfl)) (ok_t_l (ok_iload_n dX4_exportAddress_1 rfl))) (ok_t_n (ok_t_l (ok_iload_n dX4_exportAddress_2 rfl)) (ok_t_n (ok_t_l (ok_inv (run_V (y := 51) (n := 2) (ci := 4) dX4_exportAddress_3 cz_51 gdG cc_51 ci_51 w_905 cm_51 cs_51 cd_51 cl_51 rfl rfl))) (ok_t_l (ok_if_eq dX4_exportAddress_6 rfl))))) (ok_t_n (ok_t_n (ok_t_l (ok_aload_n dX4_exportAddress_9 rfl)) (ok_t_l (ok_iload_n dX4_exportAddress_10 rfl))) (ok_t_n (ok_t_l (ok_inv (run_V (y := 43) (n := 1) (ci := 4) dX4_exportAddress_11 cz_43 gdG cc_43 ci_43 w_696 cm_43 cs_43 cd_43 cl_43 rfl rfl))) (ok_t_n (ok_t_l (ok_if_eq dX4_exportAddress_14 rfl)) (ok_t_l (ok_aload_n dX4_exportAddress_17 rfl)))))) (ok_t_n (ok_t_n (ok_t_n (ok_t_l (ok_getfield dX4_exportAddress_18 (ci := 4) (kf := 4) rfl inGX4 (by decide) w_1056)) (ok_t_l (ok_iload_n dX4_exportAddress_21 rfl))) (ok_t_n (ok_t_l (ok_bipush dX4_exportAddress_22 rfl)) (ok_t_n (ok_t_l (ok_imul dX4_exportAddress_24)) (ok_t_l (ok_iload_n dX4_exportAddress_25 rfl))))) (ok_t_n (ok_t_n (ok_t_l (ok_iadd dX4_exportAddress_26)) (ok_t_l (ok_iaload dX4_exportAddress_27))) (ok_t_n (ok_t_l (ok_goto dX4_exportAddress_28 rfl)) (ok_t_n (ok_t_l (ok_iconst dX4_exportAddress_31 rfl)) (ok_t_l (ok_ireturn dX4_exportAddress_32)))))))
theorem dX4_boundTo_0 : decode cX4_boundTo 0 = .ok (.aload_n 0, 1) := by decide +kernel
theorem dX4_boundTo_1 : decode cX4_boundTo 1 = .ok (.iload_n 1, 1) := by decide +kernel
theorem dX4_boundTo_2 : decode cX4_boundTo 2 = .ok (.invokevirtual 61, 3) := by decide +kernel
theorem dX4_boundTo_5 : decode cX4_boundTo 5 = .ok (.ifCond .eq 24, 3) := by decide +kernel
theorem dX4_boundTo_8 : decode cX4_boundTo 8 = .ok (.iload_n 2, 1) := by decide +kernel
theorem dX4_boundTo_9 : decode cX4_boundTo 9 = .ok (.invokestatic 69, 3) := by decide +kernel
theorem dX4_boundTo_12 : decode cX4_boundTo 12 = .ok (.ifCond .eq 17, 3) := by decide +kernel
theorem dX4_boundTo_15 : decode cX4_boundTo 15 = .ok (.aload_n 0, 1) := by decide +kernel
theorem dX4_boundTo_16 : decode cX4_boundTo 16 = .ok (.getfield 33, 3) := by decide +kernel
theorem dX4_boundTo_19 : decode cX4_boundTo 19 = .ok (.iload_n 1, 1) := by decide +kernel
theorem dX4_boundTo_20 : decode cX4_boundTo 20 = .ok (.bipush 20, 2) := by decide +kernel
theorem dX4_boundTo_22 : decode cX4_boundTo 22 = .ok (.imul, 1) := by decide +kernel
theorem dX4_boundTo_23 : decode cX4_boundTo 23 = .ok (.iload_n 2, 1) := by decide +kernel
theorem dX4_boundTo_24 : decode cX4_boundTo 24 = .ok (.iadd, 1) := by decide +kernel
theorem dX4_boundTo_25 : decode cX4_boundTo 25 = .ok (.iaload, 1) := by decide +kernel
theorem dX4_boundTo_26 : decode cX4_boundTo 26 = .ok (.goto 4, 3) := by decide +kernel
theorem dX4_boundTo_29 : decode cX4_boundTo 29 = .ok (.iconst (-1), 1) := by decide +kernel
theorem dX4_boundTo_30 : decode cX4_boundTo 30 = .ok (.ireturn, 1) := by decide +kernel
def g_X4_boundTo : Nat → EA := (t_n 19 (t_n 8 (t_n 2 (t_n 1 (t_l 0 (a_aload 1 0)) (t_l 1 (a_iload 1 1))) (t_n 5 (t_l 2 (a_inv true 43 2 (some 4))) (t_l 5 (a_if 29 (fun x => decide (x = 0)))))) (t_n 12 (t_n 9 (t_l 8 (a_iload 1 2)) (t_l 9 (a_inv false 193 1 none))) (t_n 15 (t_l 12 (a_if 29 (fun x => decide (x = 0)))) (t_n 16 (t_l 15 (a_aload 1 0)) (t_l 16 (a_getf 4 7)))))) (t_n 24 (t_n 22 (t_n 20 (t_l 19 (a_iload 1 1)) (t_l 20 (a_push 2 (.int 20)))) (t_n 23 (t_l 22 (a_ii 1 (fun x y => x * y))) (t_l 23 (a_iload 1 2)))) (t_n 26 (t_n 25 (t_l 24 (a_ii 1 (fun x y => x + y))) (t_l 25 (a_ild 0))) (t_n 29 (t_l 26 (a_goto 30)) (t_n 30 (t_l 29 (a_push 1 (.int (-1)))) (t_l 30 a_iret))))))
set_option maxRecDepth 100000 in
theorem k_X4_boundTo (sc : Nat × (Nat → Int32)) (d : Nat) : ∀ pc, ev_Ok cX4_boundTo 3 [] RX4 lw_g lw_n (lw_q sc) vwCl false (ev_CO mt lw_g lw_n (lw_q sc) vwCl d) pc (g_X4_boundTo pc) := (ok_t_n (ok_t_n (ok_t_n (ok_t_n (ok_t_l (ok_aload_n dX4_boundTo_0 rfl)) (ok_t_l (ok_iload_n dX4_boundTo_1 rfl))) (ok_t_n (ok_t_l (ok_inv (run_V (y := 43) (n := 1) (ci := 4) dX4_boundTo_2 cz_43 gdG cc_43 ci_43 w_696 cm_43 cs_43 cd_43 cl_43 rfl rfl))) (ok_t_l (ok_if_eq dX4_boundTo_5 rfl)))) (ok_t_n (ok_t_n (ok_t_l (ok_iload_n dX4_boundTo_8 rfl)) (ok_t_l (ok_inv (run_SN (y := 193) (n := 1) dX4_boundTo_9 cz_193 gdG cc_193 ci_193 nst_16 cm_193 cd_193 cl_193)))) (ok_t_n (ok_t_l (ok_if_eq dX4_boundTo_12 rfl)) (ok_t_n (ok_t_l (ok_aload_n dX4_boundTo_15 rfl)) (ok_t_l (ok_getfield dX4_boundTo_16 (ci := 4) (kf := 7) rfl inGX4 (by decide) w_1059)))))) (ok_t_n (ok_t_n (ok_t_n (ok_t_l (ok_iload_n dX4_boundTo_19 rfl)) (ok_t_l (ok_bipush dX4_boundTo_20 rfl))) (ok_t_n (ok_t_l (ok_imul dX4_boundTo_22)) (ok_t_l (ok_iload_n dX4_boundTo_23 rfl)))) (ok_t_n (ok_t_n (ok_t_l (ok_iadd dX4_boundTo_24)) (ok_t_l (ok_iaload dX4_boundTo_25))) (ok_t_n (ok_t_l (ok_goto dX4_boundTo_26 rfl)) (ok_t_n (ok_t_l (ok_iconst dX4_boundTo_29 rfl)) (ok_t_l (ok_ireturn dX4_boundTo_30)))))))
theorem dX4_boundAddress_0 : decode cX4_boundAddress 0 = .ok (.aload_n 0, 1) := by decide +kernel
theorem dX4_boundAddress_1 : decode cX4_boundAddress 1 = .ok (.iload_n 1, 1) := by decide +kernel
theorem dX4_boundAddress_2 : decode cX4_boundAddress 2 = .ok (.iload_n 2, 1) := by decide +kernel
theorem dX4_boundAddress_3 : decode cX4_boundAddress 3 = .ok (.invokevirtual 85, 3) := by decide +kernel
theorem dX4_boundAddress_6 : decode cX4_boundAddress 6 = .ok (.istore_n 3, 1) := by decide +kernel
theorem dX4_boundAddress_7 : decode cX4_boundAddress 7 = .ok (.iload_n 3, 1) := by decide +kernel
theorem dX4_boundAddress_8 : decode cX4_boundAddress 8 = .ok (.iconst (-1), 1) := by decide +kernel
theorem dX4_boundAddress_9 : decode cX4_boundAddress 9 = .ok (.if_icmp .ne 7, 3) := by decide +kernel
theorem dX4_boundAddress_12 : decode cX4_boundAddress 12 = .ok (.iconst (-1), 1) := by decide +kernel
theorem dX4_boundAddress_13 : decode cX4_boundAddress 13 = .ok (.goto 15, 3) := by decide +kernel
theorem dX4_boundAddress_16 : decode cX4_boundAddress 16 = .ok (.aload_n 0, 1) := by decide +kernel
theorem dX4_boundAddress_17 : decode cX4_boundAddress 17 = .ok (.iload_n 3, 1) := by decide +kernel
theorem dX4_boundAddress_18 : decode cX4_boundAddress 18 = .ok (.invokevirtual 65, 3) := by decide +kernel
theorem dX4_boundAddress_21 : decode cX4_boundAddress 21 = .ok (.aload_n 0, 1) := by decide +kernel
theorem dX4_boundAddress_22 : decode cX4_boundAddress 22 = .ok (.iload_n 3, 1) := by decide +kernel
theorem dX4_boundAddress_23 : decode cX4_boundAddress 23 = .ok (.iload_n 2, 1) := by decide +kernel
theorem dX4_boundAddress_24 : decode cX4_boundAddress 24 = .ok (.invokevirtual 88, 3) := by decide +kernel
theorem dX4_boundAddress_27 : decode cX4_boundAddress 27 = .ok (.iadd, 1) := by decide +kernel
theorem dX4_boundAddress_28 : decode cX4_boundAddress 28 = .ok (.ireturn, 1) := by decide +kernel
def g_X4_boundAddress : Nat → EA := (t_n 13 (t_n 6 (t_n 2 (t_n 1 (t_l 0 (a_aload 1 0)) (t_l 1 (a_iload 1 1))) (t_n 3 (t_l 2 (a_iload 1 2)) (t_l 3 (a_inv true 54 3 (some 4))))) (t_n 8 (t_n 7 (t_l 6 (a_istore 4 1 3)) (t_l 7 (a_iload 1 3))) (t_n 9 (t_l 8 (a_push 1 (.int (-1)))) (t_n 12 (t_l 9 (a_ic 16 (fun x y => !decide (x = y)))) (t_l 12 (a_push 1 (.int (-1)))))))) (t_n 22 (t_n 17 (t_n 16 (t_l 13 (a_goto 28)) (t_l 16 (a_aload 1 0))) (t_n 18 (t_l 17 (a_iload 1 3)) (t_n 21 (t_l 18 (a_inv true 49 2 (some 4))) (t_l 21 (a_aload 1 0))))) (t_n 24 (t_n 23 (t_l 22 (a_iload 1 3)) (t_l 23 (a_iload 1 2))) (t_n 27 (t_l 24 (a_inv true 53 3 (some 4))) (t_n 28 (t_l 27 (a_ii 1 (fun x y => x + y))) (t_l 28 a_iret))))))
set_option maxRecDepth 100000 in
theorem k_X4_boundAddress (sc : Nat × (Nat → Int32)) (d : Nat) : ∀ pc, ev_Ok cX4_boundAddress 4 [] RX4 lw_g lw_n (lw_q sc) vwCl false (ev_CO mt lw_g lw_n (lw_q sc) vwCl d) pc (g_X4_boundAddress pc) := (ok_t_n (ok_t_n (ok_t_n (ok_t_n (ok_t_l (ok_aload_n dX4_boundAddress_0 rfl)) (ok_t_l (ok_iload_n dX4_boundAddress_1 rfl))) (ok_t_n (ok_t_l (ok_iload_n dX4_boundAddress_2 rfl)) (ok_t_l (ok_inv (run_V (y := 54) (n := 2) (ci := 4) dX4_boundAddress_3 cz_54 gdG cc_54 ci_54 w_924 cm_54 cs_54 cd_54 cl_54 rfl rfl))))) (ok_t_n (ok_t_n (ok_t_l (ok_istore_n dX4_boundAddress_6 rfl)) (ok_t_l (ok_iload_n dX4_boundAddress_7 rfl))) (ok_t_n (ok_t_l (ok_iconst dX4_boundAddress_8 rfl)) (ok_t_n (ok_t_l (ok_icmp_ne dX4_boundAddress_9 rfl)) (ok_t_l (ok_iconst dX4_boundAddress_12 rfl)))))) (ok_t_n (ok_t_n (ok_t_n (ok_t_l (ok_goto dX4_boundAddress_13 rfl)) (ok_t_l (ok_aload_n dX4_boundAddress_16 rfl))) (ok_t_n (ok_t_l (ok_iload_n dX4_boundAddress_17 rfl)) (ok_t_n (ok_t_l (ok_inv (run_V (y := 49) (n := 1) (ci := 4) dX4_boundAddress_18 cz_49 gdG cc_49 ci_49 w_711 cm_49 cs_49 cd_49 cl_49 rfl rfl))) (ok_t_l (ok_aload_n dX4_boundAddress_21 rfl))))) (ok_t_n (ok_t_n (ok_t_l (ok_iload_n dX4_boundAddress_22 rfl)) (ok_t_l (ok_iload_n dX4_boundAddress_23 rfl))) (ok_t_n (ok_t_l (ok_inv (run_V (y := 53) (n := 2) (ci := 4) dX4_boundAddress_24 cz_53 gdG cc_53 ci_53 w_925 cm_53 cs_53 cd_53 cl_53 rfl rfl))) (ok_t_n (ok_t_l (ok_iadd dX4_boundAddress_27)) (ok_t_l (ok_ireturn dX4_boundAddress_28)))))))
theorem dX4_placeAmongGlobal_0 : decode cX4_placeAmongGlobal 0 = .ok (.aload_n 0, 1) := by decide +kernel
theorem dX4_placeAmongGlobal_1 : decode cX4_placeAmongGlobal 1 = .ok (.getfield 36, 3) := by decide +kernel
theorem dX4_placeAmongGlobal_4 : decode cX4_placeAmongGlobal 4 = .ok (.aload_n 0, 1) := by decide +kernel
theorem dX4_placeAmongGlobal_5 : decode cX4_placeAmongGlobal 5 = .ok (.getfield 55, 3) := by decide +kernel
theorem dX4_placeAmongGlobal_8 : decode cX4_placeAmongGlobal 8 = .ok (.iload_n 1, 1) := by decide +kernel
theorem dX4_placeAmongGlobal_9 : decode cX4_placeAmongGlobal 9 = .ok (.invokestatic 91, 3) := by decide +kernel
theorem dX4_placeAmongGlobal_12 : decode cX4_placeAmongGlobal 12 = .ok (.ireturn, 1) := by decide +kernel
def g_X4_placeAmongGlobal : Nat → EA := (t_n 5 (t_n 1 (t_l 0 (a_aload 1 0)) (t_n 4 (t_l 1 (a_getf 4 8)) (t_l 4 (a_aload 1 0)))) (t_n 9 (t_n 8 (t_l 5 (a_getf 4 14)) (t_l 8 (a_iload 1 1))) (t_n 12 (t_l 9 (a_inv true 58 3 none)) (t_l 12 a_iret))))
set_option maxRecDepth 100000 in
theorem k_X4_placeAmongGlobal (sc : Nat × (Nat → Int32)) (d : Nat) : ∀ pc, ev_Ok cX4_placeAmongGlobal 2 [] RX4 lw_g lw_n (lw_q sc) vwCl false (ev_CO mt lw_g lw_n (lw_q sc) vwCl d) pc (g_X4_placeAmongGlobal pc) := (ok_t_n (ok_t_n (ok_t_l (ok_aload_n dX4_placeAmongGlobal_0 rfl)) (ok_t_n (ok_t_l (ok_getfield dX4_placeAmongGlobal_1 (ci := 4) (kf := 8) rfl inGX4 (by decide) w_1060)) (ok_t_l (ok_aload_n dX4_placeAmongGlobal_4 rfl)))) (ok_t_n (ok_t_n (ok_t_l (ok_getfield dX4_placeAmongGlobal_5 (ci := 4) (kf := 14) rfl inGX4 (by decide) w_1066)) (ok_t_l (ok_iload_n dX4_placeAmongGlobal_8 rfl))) (ok_t_n (ok_t_l (ok_inv (run_S (y := 58) (n := 3) dX4_placeAmongGlobal_9 cz_58 gdG cc_58 ci_58 w_729 cm_58 cd_58 cl_58))) (ok_t_l (ok_ireturn dX4_placeAmongGlobal_12)))))
theorem dX4_placeAmongInitialised_0 : decode cX4_placeAmongInitialised 0 = .ok (.aload_n 0, 1) := by decide +kernel
theorem dX4_placeAmongInitialised_1 : decode cX4_placeAmongInitialised 1 = .ok (.getfield 39, 3) := by decide +kernel
theorem dX4_placeAmongInitialised_4 : decode cX4_placeAmongInitialised 4 = .ok (.aload_n 0, 1) := by decide +kernel
theorem dX4_placeAmongInitialised_5 : decode cX4_placeAmongInitialised 5 = .ok (.getfield 58, 3) := by decide +kernel
theorem dX4_placeAmongInitialised_8 : decode cX4_placeAmongInitialised 8 = .ok (.iload_n 1, 1) := by decide +kernel
theorem dX4_placeAmongInitialised_9 : decode cX4_placeAmongInitialised 9 = .ok (.invokestatic 91, 3) := by decide +kernel
theorem dX4_placeAmongInitialised_12 : decode cX4_placeAmongInitialised 12 = .ok (.ireturn, 1) := by decide +kernel
def g_X4_placeAmongInitialised : Nat → EA := (t_n 5 (t_n 1 (t_l 0 (a_aload 1 0)) (t_n 4 (t_l 1 (a_getf 4 9)) (t_l 4 (a_aload 1 0)))) (t_n 9 (t_n 8 (t_l 5 (a_getf 4 15)) (t_l 8 (a_iload 1 1))) (t_n 12 (t_l 9 (a_inv true 58 3 none)) (t_l 12 a_iret))))
set_option maxRecDepth 100000 in
theorem k_X4_placeAmongInitialised (sc : Nat × (Nat → Int32)) (d : Nat) : ∀ pc, ev_Ok cX4_placeAmongInitialised 2 [] RX4 lw_g lw_n (lw_q sc) vwCl false (ev_CO mt lw_g lw_n (lw_q sc) vwCl d) pc (g_X4_placeAmongInitialised pc) := (ok_t_n (ok_t_n (ok_t_l (ok_aload_n dX4_placeAmongInitialised_0 rfl)) (ok_t_n (ok_t_l (ok_getfield dX4_placeAmongInitialised_1 (ci := 4) (kf := 9) rfl inGX4 (by decide) w_1061)) (ok_t_l (ok_aload_n dX4_placeAmongInitialised_4 rfl)))) (ok_t_n (ok_t_n (ok_t_l (ok_getfield dX4_placeAmongInitialised_5 (ci := 4) (kf := 15) rfl inGX4 (by decide) w_1067)) (ok_t_l (ok_iload_n dX4_placeAmongInitialised_8 rfl))) (ok_t_n (ok_t_l (ok_inv (run_S (y := 58) (n := 3) dX4_placeAmongInitialised_9 cz_58 gdG cc_58 ci_58 w_729 cm_58 cd_58 cl_58))) (ok_t_l (ok_ireturn dX4_placeAmongInitialised_12)))))
theorem dX4_placeIn_0 : decode cX4_placeIn 0 = .ok (.iconst 0, 1) := by decide +kernel
theorem dX4_placeIn_1 : decode cX4_placeIn 1 = .ok (.istore_n 3, 1) := by decide +kernel
theorem dX4_placeIn_2 : decode cX4_placeIn 2 = .ok (.iload_n 3, 1) := by decide +kernel
theorem dX4_placeIn_3 : decode cX4_placeIn 3 = .ok (.iload_n 1, 1) := by decide +kernel
theorem dX4_placeIn_4 : decode cX4_placeIn 4 = .ok (.if_icmp .ge 24, 3) := by decide +kernel
theorem dX4_placeIn_7 : decode cX4_placeIn 7 = .ok (.iload_n 3, 1) := by decide +kernel
theorem dX4_placeIn_8 : decode cX4_placeIn 8 = .ok (.aload_n 0, 1) := by decide +kernel
theorem dX4_placeIn_9 : decode cX4_placeIn 9 = .ok (.arraylength, 1) := by decide +kernel
theorem dX4_placeIn_10 : decode cX4_placeIn 10 = .ok (.if_icmp .ge 18, 3) := by decide +kernel
theorem dX4_placeIn_13 : decode cX4_placeIn 13 = .ok (.aload_n 0, 1) := by decide +kernel
theorem dX4_placeIn_14 : decode cX4_placeIn 14 = .ok (.iload_n 3, 1) := by decide +kernel
theorem dX4_placeIn_15 : decode cX4_placeIn 15 = .ok (.iaload, 1) := by decide +kernel
theorem dX4_placeIn_16 : decode cX4_placeIn 16 = .ok (.iload_n 2, 1) := by decide +kernel
theorem dX4_placeIn_17 : decode cX4_placeIn 17 = .ok (.if_icmp .ne 5, 3) := by decide +kernel
theorem dX4_placeIn_20 : decode cX4_placeIn 20 = .ok (.iload_n 3, 1) := by decide +kernel
theorem dX4_placeIn_21 : decode cX4_placeIn 21 = .ok (.ireturn, 1) := by decide +kernel
theorem dX4_placeIn_22 : decode cX4_placeIn 22 = .ok (.iinc 3 1, 3) := by decide +kernel
theorem dX4_placeIn_25 : decode cX4_placeIn 25 = .ok (.goto (-23), 3) := by decide +kernel
theorem dX4_placeIn_28 : decode cX4_placeIn 28 = .ok (.iconst (-1), 1) := by decide +kernel
theorem dX4_placeIn_29 : decode cX4_placeIn 29 = .ok (.ireturn, 1) := by decide +kernel
def g_X4_placeIn : Nat → EA := (t_n 14 (t_n 7 (t_n 2 (t_n 1 (t_l 0 (a_push 1 (.int 0))) (t_l 1 (a_istore 4 1 3))) (t_n 3 (t_l 2 (a_iload 1 3)) (t_n 4 (t_l 3 (a_iload 1 1)) (t_l 4 (a_ic 28 (fun x y => decide (y ≤ x))))))) (t_n 9 (t_n 8 (t_l 7 (a_iload 1 3)) (t_l 8 (a_aload 1 0))) (t_n 10 (t_l 9 a_alen) (t_n 13 (t_l 10 (a_ic 28 (fun x y => decide (y ≤ x)))) (t_l 13 (a_aload 1 0)))))) (t_n 21 (t_n 16 (t_n 15 (t_l 14 (a_iload 1 3)) (t_l 15 (a_ild 0))) (t_n 17 (t_l 16 (a_iload 1 2)) (t_n 20 (t_l 17 (a_ic 22 (fun x y => !decide (x = y)))) (t_l 20 (a_iload 1 3))))) (t_n 25 (t_n 22 (t_l 21 a_iret) (t_l 22 (a_iinc 4 3 1))) (t_n 28 (t_l 25 (a_goto 2)) (t_n 29 (t_l 28 (a_push 1 (.int (-1)))) (t_l 29 a_iret))))))
set_option maxRecDepth 100000 in
theorem k_X4_placeIn (sc : Nat × (Nat → Int32)) (d : Nat) : ∀ pc, ev_Ok cX4_placeIn 4 [] RX4 lw_g lw_n (lw_q sc) vwCl false (ev_CO mt lw_g lw_n (lw_q sc) vwCl d) pc (g_X4_placeIn pc) := (ok_t_n (ok_t_n (ok_t_n (ok_t_n (ok_t_l (ok_iconst dX4_placeIn_0 rfl)) (ok_t_l (ok_istore_n dX4_placeIn_1 rfl))) (ok_t_n (ok_t_l (ok_iload_n dX4_placeIn_2 rfl)) (ok_t_n (ok_t_l (ok_iload_n dX4_placeIn_3 rfl)) (ok_t_l (ok_icmp_ge dX4_placeIn_4 rfl))))) (ok_t_n (ok_t_n (ok_t_l (ok_iload_n dX4_placeIn_7 rfl)) (ok_t_l (ok_aload_n dX4_placeIn_8 rfl))) (ok_t_n (ok_t_l (ok_arraylength dX4_placeIn_9)) (ok_t_n (ok_t_l (ok_icmp_ge dX4_placeIn_10 rfl)) (ok_t_l (ok_aload_n dX4_placeIn_13 rfl)))))) (ok_t_n (ok_t_n (ok_t_n (ok_t_l (ok_iload_n dX4_placeIn_14 rfl)) (ok_t_l (ok_iaload dX4_placeIn_15))) (ok_t_n (ok_t_l (ok_iload_n dX4_placeIn_16 rfl)) (ok_t_n (ok_t_l (ok_icmp_ne dX4_placeIn_17 rfl)) (ok_t_l (ok_iload_n dX4_placeIn_20 rfl))))) (ok_t_n (ok_t_n (ok_t_l (ok_ireturn dX4_placeIn_21)) (ok_t_l (ok_iinc dX4_placeIn_22 rfl))) (ok_t_n (ok_t_l (ok_goto dX4_placeIn_25 rfl)) (ok_t_n (ok_t_l (ok_iconst dX4_placeIn_28 rfl)) (ok_t_l (ok_ireturn dX4_placeIn_29)))))))
theorem dX4_countLoaded_0 : decode cX4_countLoaded 0 = .ok (.aload_n 0, 1) := by decide +kernel
theorem dX4_countLoaded_1 : decode cX4_countLoaded 1 = .ok (.invokevirtual 95, 3) := by decide +kernel
theorem dX4_countLoaded_4 : decode cX4_countLoaded 4 = .ok (.invokestatic 99, 3) := by decide +kernel
theorem dX4_countLoaded_7 : decode cX4_countLoaded 7 = .ok (.ireturn, 1) := by decide +kernel
def g_X4_countLoaded : Nat → EA := (t_n 4 (t_n 1 (t_l 0 (a_aload 1 0)) (t_l 1 (a_inv true 64 1 (some 4)))) (t_n 7 (t_l 4 (a_inv true 209 1 none)) (t_l 7 a_iret)))
set_option maxRecDepth 100000 in
theorem k_X4_countLoaded (sc : Nat × (Nat → Int32)) (d : Nat) : ∀ pc, ev_Ok cX4_countLoaded 1 [] RX4 lw_g lw_n (lw_q sc) vwCl false (ev_CO mt lw_g lw_n (lw_q sc) vwCl d) pc (g_X4_countLoaded pc) := (ok_t_n (ok_t_n (ok_t_l (ok_aload_n dX4_countLoaded_0 rfl)) (ok_t_l (ok_inv (run_V (y := 64) (n := 0) (ci := 4) dX4_countLoaded_1 cz_64 gdG cc_64 ci_64 w_758 cm_64 cs_64 cd_64 cl_64 rfl rfl)))) (ok_t_n (ok_t_l (ok_inv (run_S (y := 209) (n := 1) dX4_countLoaded_4 cz_209 gdG cc_209 ci_209 w_739 cm_209 cd_209 cl_209))) (ok_t_l (ok_ireturn dX4_countLoaded_7))))
theorem dX4_countGlobal_0 : decode cX4_countGlobal 0 = .ok (.aload_n 0, 1) := by decide +kernel
theorem dX4_countGlobal_1 : decode cX4_countGlobal 1 = .ok (.getfield 55, 3) := by decide +kernel
theorem dX4_countGlobal_4 : decode cX4_countGlobal 4 = .ok (.ireturn, 1) := by decide +kernel
def g_X4_countGlobal : Nat → EA := (t_n 1 (t_l 0 (a_aload 1 0)) (t_n 4 (t_l 1 (a_getf 4 14)) (t_l 4 a_iret)))
set_option maxRecDepth 100000 in
theorem k_X4_countGlobal (sc : Nat × (Nat → Int32)) (d : Nat) : ∀ pc, ev_Ok cX4_countGlobal 1 [] RX4 lw_g lw_n (lw_q sc) vwCl false (ev_CO mt lw_g lw_n (lw_q sc) vwCl d) pc (g_X4_countGlobal pc) := (ok_t_n (ok_t_l (ok_aload_n dX4_countGlobal_0 rfl)) (ok_t_n (ok_t_l (ok_getfield dX4_countGlobal_1 (ci := 4) (kf := 14) rfl inGX4 (by decide) w_1066)) (ok_t_l (ok_ireturn dX4_countGlobal_4))))
theorem dX4_countBindings_0 : decode cX4_countBindings 0 = .ok (.iconst 0, 1) := by decide +kernel
theorem dX4_countBindings_1 : decode cX4_countBindings 1 = .ok (.istore_n 1, 1) := by decide +kernel
theorem dX4_countBindings_2 : decode cX4_countBindings 2 = .ok (.iconst 0, 1) := by decide +kernel
theorem dX4_countBindings_3 : decode cX4_countBindings 3 = .ok (.istore_n 2, 1) := by decide +kernel
theorem dX4_countBindings_4 : decode cX4_countBindings 4 = .ok (.iload_n 2, 1) := by decide +kernel
theorem dX4_countBindings_5 : decode cX4_countBindings 5 = .ok (.bipush 120, 2) := by decide +kernel
theorem dX4_countBindings_7 : decode cX4_countBindings 7 = .ok (.if_icmp .ge 22, 3) := by decide +kernel
theorem dX4_countBindings_10 : decode cX4_countBindings 10 = .ok (.aload_n 0, 1) := by decide +kernel
theorem dX4_countBindings_11 : decode cX4_countBindings 11 = .ok (.getfield 33, 3) := by decide +kernel
theorem dX4_countBindings_14 : decode cX4_countBindings 14 = .ok (.iload_n 2, 1) := by decide +kernel
theorem dX4_countBindings_15 : decode cX4_countBindings 15 = .ok (.iaload, 1) := by decide +kernel
theorem dX4_countBindings_16 : decode cX4_countBindings 16 = .ok (.iconst (-1), 1) := by decide +kernel
theorem dX4_countBindings_17 : decode cX4_countBindings 17 = .ok (.if_icmp .eq 6, 3) := by decide +kernel
theorem dX4_countBindings_20 : decode cX4_countBindings 20 = .ok (.iinc 1 1, 3) := by decide +kernel
theorem dX4_countBindings_23 : decode cX4_countBindings 23 = .ok (.iinc 2 1, 3) := by decide +kernel
theorem dX4_countBindings_26 : decode cX4_countBindings 26 = .ok (.goto (-22), 3) := by decide +kernel
theorem dX4_countBindings_29 : decode cX4_countBindings 29 = .ok (.iload_n 1, 1) := by decide +kernel
theorem dX4_countBindings_30 : decode cX4_countBindings 30 = .ok (.ireturn, 1) := by decide +kernel
def g_X4_countBindings : Nat → EA := (t_n 14 (t_n 4 (t_n 2 (t_n 1 (t_l 0 (a_push 1 (.int 0))) (t_l 1 (a_istore 3 1 1))) (t_n 3 (t_l 2 (a_push 1 (.int 0))) (t_l 3 (a_istore 3 1 2)))) (t_n 7 (t_n 5 (t_l 4 (a_iload 1 2)) (t_l 5 (a_push 2 (.int 120)))) (t_n 10 (t_l 7 (a_ic 29 (fun x y => decide (y ≤ x)))) (t_n 11 (t_l 10 (a_aload 1 0)) (t_l 11 (a_getf 4 7)))))) (t_n 20 (t_n 16 (t_n 15 (t_l 14 (a_iload 1 2)) (t_l 15 (a_ild 0))) (t_n 17 (t_l 16 (a_push 1 (.int (-1)))) (t_l 17 (a_ic 23 (fun x y => decide (x = y)))))) (t_n 26 (t_n 23 (t_l 20 (a_iinc 3 1 1)) (t_l 23 (a_iinc 3 2 1))) (t_n 29 (t_l 26 (a_goto 4)) (t_n 30 (t_l 29 (a_iload 1 1)) (t_l 30 a_iret))))))
set_option maxRecDepth 100000 in
theorem k_X4_countBindings (sc : Nat × (Nat → Int32)) (d : Nat) : ∀ pc, ev_Ok cX4_countBindings 3 [] RX4 lw_g lw_n (lw_q sc) vwCl false (ev_CO mt lw_g lw_n (lw_q sc) vwCl d) pc (g_X4_countBindings pc) := (ok_t_n (ok_t_n (ok_t_n (ok_t_n (ok_t_l (ok_iconst dX4_countBindings_0 rfl)) (ok_t_l (ok_istore_n dX4_countBindings_1 rfl))) (ok_t_n (ok_t_l (ok_iconst dX4_countBindings_2 rfl)) (ok_t_l (ok_istore_n dX4_countBindings_3 rfl)))) (ok_t_n (ok_t_n (ok_t_l (ok_iload_n dX4_countBindings_4 rfl)) (ok_t_l (ok_bipush dX4_countBindings_5 rfl))) (ok_t_n (ok_t_l (ok_icmp_ge dX4_countBindings_7 rfl)) (ok_t_n (ok_t_l (ok_aload_n dX4_countBindings_10 rfl)) (ok_t_l (ok_getfield dX4_countBindings_11 (ci := 4) (kf := 7) rfl inGX4 (by decide) w_1059)))))) (ok_t_n (ok_t_n (ok_t_n (ok_t_l (ok_iload_n dX4_countBindings_14 rfl)) (ok_t_l (ok_iaload dX4_countBindings_15))) (ok_t_n (ok_t_l (ok_iconst dX4_countBindings_16 rfl)) (ok_t_l (ok_icmp_eq dX4_countBindings_17 rfl)))) (ok_t_n (ok_t_n (ok_t_l (ok_iinc dX4_countBindings_20 rfl)) (ok_t_l (ok_iinc dX4_countBindings_23 rfl))) (ok_t_n (ok_t_l (ok_goto dX4_countBindings_26 rfl)) (ok_t_n (ok_t_l (ok_iload_n dX4_countBindings_29 rfl)) (ok_t_l (ok_ireturn dX4_countBindings_30)))))))
theorem dX4_add_0 : decode cX4_add 0 = .ok (.aload_n 0, 1) := by decide +kernel
theorem dX4_add_1 : decode cX4_add 1 = .ok (.invokevirtual 104, 3) := by decide +kernel
theorem dX4_add_4 : decode cX4_add 4 = .ok (.ifCond .eq 5, 3) := by decide +kernel
theorem dX4_add_7 : decode cX4_add 7 = .ok (.iconst (-1), 1) := by decide +kernel
theorem dX4_add_8 : decode cX4_add 8 = .ok (.ireturn, 1) := by decide +kernel
theorem dX4_add_9 : decode cX4_add 9 = .ok (.aload_n 0, 1) := by decide +kernel
theorem dX4_add_10 : decode cX4_add 10 = .ok (.getfield 52, 3) := by decide +kernel
theorem dX4_add_13 : decode cX4_add 13 = .ok (.istore_n 3, 1) := by decide +kernel
theorem dX4_add_14 : decode cX4_add 14 = .ok (.aload_n 0, 1) := by decide +kernel
theorem dX4_add_15 : decode cX4_add 15 = .ok (.dup, 1) := by decide +kernel
theorem dX4_add_16 : decode cX4_add 16 = .ok (.getfield 52, 3) := by decide +kernel
theorem dX4_add_19 : decode cX4_add 19 = .ok (.iconst 1, 1) := by decide +kernel
theorem dX4_add_20 : decode cX4_add 20 = .ok (.iadd, 1) := by decide +kernel
theorem dX4_add_21 : decode cX4_add 21 = .ok (.putfield 52, 3) := by decide +kernel
theorem dX4_add_24 : decode cX4_add 24 = .ok (.aload_n 0, 1) := by decide +kernel
theorem dX4_add_25 : decode cX4_add 25 = .ok (.getfield 9, 3) := by decide +kernel
theorem dX4_add_28 : decode cX4_add 28 = .ok (.iload_n 3, 1) := by decide +kernel
theorem dX4_add_29 : decode cX4_add 29 = .ok (.aload_n 1, 1) := by decide +kernel
theorem dX4_add_30 : decode cX4_add 30 = .ok (.getfield 108, 3) := by decide +kernel
theorem dX4_add_33 : decode cX4_add 33 = .ok (.invokevirtual 114, 3) := by decide +kernel
theorem dX4_add_36 : decode cX4_add 36 = .ok (.iastore, 1) := by decide +kernel
theorem dX4_add_37 : decode cX4_add 37 = .ok (.aload_n 0, 1) := by decide +kernel
theorem dX4_add_38 : decode cX4_add 38 = .ok (.getfield 15, 3) := by decide +kernel
theorem dX4_add_41 : decode cX4_add 41 = .ok (.iload_n 3, 1) := by decide +kernel
theorem dX4_add_42 : decode cX4_add 42 = .ok (.iload_n 2, 1) := by decide +kernel
theorem dX4_add_43 : decode cX4_add 43 = .ok (.iastore, 1) := by decide +kernel
theorem dX4_add_44 : decode cX4_add 44 = .ok (.aload_n 0, 1) := by decide +kernel
theorem dX4_add_45 : decode cX4_add 45 = .ok (.getfield 21, 3) := by decide +kernel
theorem dX4_add_48 : decode cX4_add 48 = .ok (.iload_n 3, 1) := by decide +kernel
theorem dX4_add_49 : decode cX4_add 49 = .ok (.aload_n 1, 1) := by decide +kernel
theorem dX4_add_50 : decode cX4_add 50 = .ok (.getfield 119, 3) := by decide +kernel
theorem dX4_add_53 : decode cX4_add 53 = .ok (.invokevirtual 123, 3) := by decide +kernel
theorem dX4_add_56 : decode cX4_add 56 = .ok (.iastore, 1) := by decide +kernel
theorem dX4_add_57 : decode cX4_add 57 = .ok (.aload_n 0, 1) := by decide +kernel
theorem dX4_add_58 : decode cX4_add 58 = .ok (.getfield 18, 3) := by decide +kernel
theorem dX4_add_61 : decode cX4_add 61 = .ok (.iload_n 3, 1) := by decide +kernel
theorem dX4_add_62 : decode cX4_add 62 = .ok (.iconst 0, 1) := by decide +kernel
theorem dX4_add_63 : decode cX4_add 63 = .ok (.iastore, 1) := by decide +kernel
theorem dX4_add_64 : decode cX4_add 64 = .ok (.iconst 0, 1) := by decide +kernel
theorem dX4_add_65 : decode cX4_add 65 = .ok (.istore 4, 2) := by decide +kernel
theorem dX4_add_67 : decode cX4_add 67 = .ok (.iload 4, 2) := by decide +kernel
theorem dX4_add_69 : decode cX4_add 69 = .ok (.bipush 20, 2) := by decide +kernel
theorem dX4_add_71 : decode cX4_add 71 = .ok (.if_icmp .ge 65, 3) := by decide +kernel
theorem dX4_add_74 : decode cX4_add 74 = .ok (.aload_n 1, 1) := by decide +kernel
theorem dX4_add_75 : decode cX4_add 75 = .ok (.getfield 108, 3) := by decide +kernel
theorem dX4_add_78 : decode cX4_add 78 = .ok (.iload 4, 2) := by decide +kernel
theorem dX4_add_80 : decode cX4_add 80 = .ok (.invokevirtual 127, 3) := by decide +kernel
theorem dX4_add_83 : decode cX4_add 83 = .ok (.istore 5, 2) := by decide +kernel
theorem dX4_add_85 : decode cX4_add 85 = .ok (.iload 5, 2) := by decide +kernel
theorem dX4_add_87 : decode cX4_add 87 = .ok (.iconst (-1), 1) := by decide +kernel
theorem dX4_add_88 : decode cX4_add 88 = .ok (.if_icmp .eq 42, 3) := by decide +kernel
theorem dX4_add_91 : decode cX4_add 91 = .ok (.aload_n 1, 1) := by decide +kernel
theorem dX4_add_92 : decode cX4_add 92 = .ok (.getfield 130, 3) := by decide +kernel
theorem dX4_add_95 : decode cX4_add 95 = .ok (.iload 4, 2) := by decide +kernel
theorem dX4_add_97 : decode cX4_add 97 = .ok (.invokevirtual 134, 3) := by decide +kernel
theorem dX4_add_100 : decode cX4_add 100 = .ok (.ifCond .ne 30, 3) := by decide +kernel
theorem dX4_add_103 : decode cX4_add 103 = .ok (.aload_n 0, 1) := by decide +kernel
theorem dX4_add_104 : decode cX4_add 104 = .ok (.getfield 18, 3) := by decide +kernel
theorem dX4_add_107 : decode cX4_add 107 = .ok (.iload_n 3, 1) := by decide +kernel
theorem dX4_add_108 : decode cX4_add 108 = .ok (.dup2, 1) := by decide +kernel
theorem dX4_add_109 : decode cX4_add 109 = .ok (.iaload, 1) := by decide +kernel
theorem dX4_add_110 : decode cX4_add 110 = .ok (.iconst 1, 1) := by decide +kernel
theorem dX4_add_111 : decode cX4_add 111 = .ok (.iload 4, 2) := by decide +kernel
theorem dX4_add_113 : decode cX4_add 113 = .ok (.ishl, 1) := by decide +kernel
theorem dX4_add_114 : decode cX4_add 114 = .ok (.ior, 1) := by decide +kernel
theorem dX4_add_115 : decode cX4_add 115 = .ok (.iastore, 1) := by decide +kernel
theorem dX4_add_116 : decode cX4_add 116 = .ok (.aload_n 0, 1) := by decide +kernel
theorem dX4_add_117 : decode cX4_add 117 = .ok (.getfield 24, 3) := by decide +kernel
theorem dX4_add_120 : decode cX4_add 120 = .ok (.iload_n 3, 1) := by decide +kernel
theorem dX4_add_121 : decode cX4_add 121 = .ok (.bipush 20, 2) := by decide +kernel
theorem dX4_add_123 : decode cX4_add 123 = .ok (.imul, 1) := by decide +kernel
theorem dX4_add_124 : decode cX4_add 124 = .ok (.iload 4, 2) := by decide +kernel
theorem dX4_add_126 : decode cX4_add 126 = .ok (.iadd, 1) := by decide +kernel
theorem dX4_add_127 : decode cX4_add 127 = .ok (.iload 5, 2) := by decide +kernel
theorem dX4_add_129 : decode cX4_add 129 = .ok (.iastore, 1) := by decide +kernel
theorem dX4_add_130 : decode cX4_add 130 = .ok (.iinc 4 1, 3) := by decide +kernel
theorem dX4_add_133 : decode cX4_add 133 = .ok (.goto (-66), 3) := by decide +kernel
theorem dX4_add_136 : decode cX4_add 136 = .ok (.iload_n 3, 1) := by decide +kernel
theorem dX4_add_137 : decode cX4_add 137 = .ok (.ireturn, 1) := by decide +kernel
def g_X4_add : Nat → EA := (t_n 65 (t_n 33 (t_n 15 (t_n 8 (t_n 4 (t_n 1 (t_l 0 (a_aload 1 0)) (t_l 1 (a_inv true 42 1 (some 4)))) (t_n 7 (t_l 4 (a_if 9 (fun x => decide (x = 0)))) (t_l 7 (a_push 1 (.int (-1)))))) (t_n 10 (t_n 9 (t_l 8 a_iret) (t_l 9 (a_aload 1 0))) (t_n 13 (t_l 10 (a_getf 4 13)) (t_n 14 (t_l 13 (a_istore 6 1 3)) (t_l 14 (a_aload 1 0)))))) (t_n 24 (t_n 19 (t_n 16 (t_l 15 a_dup) (t_l 16 (a_getf 4 13))) (t_n 20 (t_l 19 (a_push 1 (.int 1))) (t_n 21 (t_l 20 (a_ii 1 (fun x y => x + y))) (t_l 21 (a_putf 0 4 13))))) (t_n 28 (t_n 25 (t_l 24 (a_aload 1 0)) (t_l 25 (a_getf 4 0))) (t_n 29 (t_l 28 (a_iload 1 3)) (t_n 30 (t_l 29 (a_aload 1 1)) (t_l 30 (a_getf 5 4))))))) (t_n 49 (t_n 42 (t_n 37 (t_n 36 (t_l 33 (a_inv true 21 1 (some 3))) (t_l 36 (a_ist 0))) (t_n 38 (t_l 37 (a_aload 1 0)) (t_n 41 (t_l 38 (a_getf 4 1)) (t_l 41 (a_iload 1 3))))) (t_n 44 (t_n 43 (t_l 42 (a_iload 1 2)) (t_l 43 (a_ist 0))) (t_n 45 (t_l 44 (a_aload 1 0)) (t_n 48 (t_l 45 (a_getf 4 3)) (t_l 48 (a_iload 1 3)))))) (t_n 58 (t_n 53 (t_n 50 (t_l 49 (a_aload 1 1)) (t_l 50 (a_getf 5 3))) (t_n 56 (t_l 53 (a_inv true 108 1 (some 7))) (t_n 57 (t_l 56 (a_ist 0)) (t_l 57 (a_aload 1 0))))) (t_n 62 (t_n 61 (t_l 58 (a_getf 4 2)) (t_l 61 (a_iload 1 3))) (t_n 63 (t_l 62 (a_push 1 (.int 0))) (t_n 64 (t_l 63 (a_ist 0)) (t_l 64 (a_push 1 (.int 0))))))))) (t_n 108 (t_n 87 (t_n 75 (t_n 69 (t_n 67 (t_l 65 (a_istore 6 2 4)) (t_l 67 (a_iload 2 4))) (t_n 71 (t_l 69 (a_push 2 (.int 20))) (t_n 74 (t_l 71 (a_ic 136 (fun x y => decide (y ≤ x)))) (t_l 74 (a_aload 1 1))))) (t_n 80 (t_n 78 (t_l 75 (a_getf 5 4)) (t_l 78 (a_iload 2 4))) (t_n 83 (t_l 80 (a_inv true 28 2 (some 3))) (t_n 85 (t_l 83 (a_istore 6 2 5)) (t_l 85 (a_iload 2 5)))))) (t_n 97 (t_n 91 (t_n 88 (t_l 87 (a_push 1 (.int (-1)))) (t_l 88 (a_ic 130 (fun x y => decide (x = y))))) (t_n 92 (t_l 91 (a_aload 1 1)) (t_n 95 (t_l 92 (a_getf 5 2)) (t_l 95 (a_iload 2 4))))) (t_n 103 (t_n 100 (t_l 97 (a_inv true 144 2 (some 9))) (t_l 100 (a_if 130 (fun x => !decide (x = 0))))) (t_n 104 (t_l 103 (a_aload 1 0)) (t_n 107 (t_l 104 (a_getf 4 2)) (t_l 107 (a_iload 1 3))))))) (t_n 121 (t_n 114 (t_n 110 (t_n 109 (t_l 108 a_dup2) (t_l 109 (a_ild 0))) (t_n 111 (t_l 110 (a_push 1 (.int 1))) (t_n 113 (t_l 111 (a_iload 2 4)) (t_l 113 (a_ii 1 (fun x y => x <<< (y &&& 31))))))) (t_n 116 (t_n 115 (t_l 114 (a_ii 1 (fun x y => x ||| y))) (t_l 115 (a_ist 0))) (t_n 117 (t_l 116 (a_aload 1 0)) (t_n 120 (t_l 117 (a_getf 4 4)) (t_l 120 (a_iload 1 3)))))) (t_n 129 (t_n 124 (t_n 123 (t_l 121 (a_push 2 (.int 20))) (t_l 123 (a_ii 1 (fun x y => x * y)))) (t_n 126 (t_l 124 (a_iload 2 4)) (t_n 127 (t_l 126 (a_ii 1 (fun x y => x + y))) (t_l 127 (a_iload 2 5))))) (t_n 133 (t_n 130 (t_l 129 (a_ist 0)) (t_l 130 (a_iinc 6 4 1))) (t_n 136 (t_l 133 (a_goto 67)) (t_n 137 (t_l 136 (a_iload 1 3)) (t_l 137 a_iret))))))))
set_option maxRecDepth 100000 in
theorem k_X4_add (sc : Nat × (Nat → Int32)) (d : Nat) : ∀ pc, ev_Ok cX4_add 6 [] RX4 lw_g lw_n (lw_q sc) vwCl false (ev_CO mt lw_g lw_n (lw_q sc) vwCl d) pc (g_X4_add pc) := (ok_t_n (ok_t_n (ok_t_n (ok_t_n (ok_t_n (ok_t_n (ok_t_l (ok_aload_n dX4_add_0 rfl)) (ok_t_l (ok_inv (run_V (y := 42) (n := 0) (ci := 4) dX4_add_1 cz_42 gdG cc_42 ci_42 w_672 cm_42 cs_42 cd_42 cl_42 rfl rfl)))) (ok_t_n (ok_t_l (ok_if_eq dX4_add_4 rfl)) (ok_t_l (ok_iconst dX4_add_7 rfl)))) (ok_t_n (ok_t_n (ok_t_l (ok_ireturn dX4_add_8)) (ok_t_l (ok_aload_n dX4_add_9 rfl))) (ok_t_n (ok_t_l (ok_getfield dX4_add_10 (ci := 4) (kf := 13) rfl inGX4 (by decide) w_1065)) (ok_t_n (ok_t_l (ok_istore_n dX4_add_13 rfl)) (ok_t_l (ok_aload_n dX4_add_14 rfl)))))) (ok_t_n (ok_t_n (ok_t_n (ok_t_l (ok_dup dX4_add_15)) (ok_t_l (ok_getfield dX4_add_16 (ci := 4) (kf := 13) rfl inGX4 (by decide) w_1065))) (ok_t_n (ok_t_l (ok_iconst dX4_add_19 rfl)) (ok_t_n (ok_t_l (ok_iadd dX4_add_20)) (ok_t_l (ok_putfield dX4_add_21 (ci := 4) (kf := 13) rfl inGX4 (by decide) tyX4_ok nmX4 rfl w_1065 rfl))))) (ok_t_n (ok_t_n (ok_t_l (ok_aload_n dX4_add_24 rfl)) (ok_t_l (ok_getfield dX4_add_25 (ci := 4) (kf := 0) rfl inGX4 (by decide) w_1052))) (ok_t_n (ok_t_l (ok_iload_n dX4_add_28 rfl)) (ok_t_n (ok_t_l (ok_aload_n dX4_add_29 rfl)) (ok_t_l (ok_getfieldN dX4_add_30 (ci := 5) (kf := 4) rfl inGX5 (by decide) (nst_28)))))))) (ok_t_n (ok_t_n (ok_t_n (ok_t_n (ok_t_l (ok_inv (run_V (y := 21) (n := 0) (ci := 3) dX4_add_33 cz_21 gdG cc_21 ci_21 w_673 cm_21 cs_21 cd_21 cl_21 rfl rfl))) (ok_t_l (ok_iastore dX4_add_36))) (ok_t_n (ok_t_l (ok_aload_n dX4_add_37 rfl)) (ok_t_n (ok_t_l (ok_getfield dX4_add_38 (ci := 4) (kf := 1) rfl inGX4 (by decide) w_1053)) (ok_t_l (ok_iload_n dX4_add_41 rfl))))) (ok_t_n (ok_t_n (ok_t_l (ok_iload_n dX4_add_42 rfl)) (ok_t_l (ok_iastore dX4_add_43))) (ok_t_n (ok_t_l (ok_aload_n dX4_add_44 rfl)) (ok_t_n (ok_t_l (ok_getfield dX4_add_45 (ci := 4) (kf := 3) rfl inGX4 (by decide) w_1055)) (ok_t_l (ok_iload_n dX4_add_48 rfl)))))) (ok_t_n (ok_t_n (ok_t_n (ok_t_l (ok_aload_n dX4_add_49 rfl)) (ok_t_l (ok_getfieldN dX4_add_50 (ci := 5) (kf := 3) rfl inGX5 (by decide) (nst_26)))) (ok_t_n (ok_t_l (ok_inv (run_V (y := 108) (n := 0) (ci := 7) dX4_add_53 cz_108 gdG cc_108 ci_108 w_674 cm_108 cs_108 cd_108 cl_108 rfl rfl))) (ok_t_n (ok_t_l (ok_iastore dX4_add_56)) (ok_t_l (ok_aload_n dX4_add_57 rfl))))) (ok_t_n (ok_t_n (ok_t_l (ok_getfield dX4_add_58 (ci := 4) (kf := 2) rfl inGX4 (by decide) w_1054)) (ok_t_l (ok_iload_n dX4_add_61 rfl))) (ok_t_n (ok_t_l (ok_iconst dX4_add_62 rfl)) (ok_t_n (ok_t_l (ok_iastore dX4_add_63)) (ok_t_l (ok_iconst dX4_add_64 rfl)))))))) (ok_t_n (ok_t_n (ok_t_n (ok_t_n (ok_t_n (ok_t_l (ok_istore dX4_add_65)) (ok_t_l (ok_iload dX4_add_67))) (ok_t_n (ok_t_l (ok_bipush dX4_add_69 rfl)) (ok_t_n (ok_t_l (ok_icmp_ge dX4_add_71 rfl)) (ok_t_l (ok_aload_n dX4_add_74 rfl))))) (ok_t_n (ok_t_n (ok_t_l (ok_getfieldN dX4_add_75 (ci := 5) (kf := 4) rfl inGX5 (by decide) (nst_28))) (ok_t_l (ok_iload dX4_add_78))) (ok_t_n (ok_t_l (ok_inv (run_V (y := 28) (n := 1) (ci := 3) dX4_add_80 cz_28 gdG cc_28 ci_28 w_678 cm_28 cs_28 cd_28 cl_28 rfl rfl))) (ok_t_n (ok_t_l (ok_istore dX4_add_83)) (ok_t_l (ok_iload dX4_add_85)))))) (ok_t_n (ok_t_n (ok_t_n (ok_t_l (ok_iconst dX4_add_87 rfl)) (ok_t_l (ok_icmp_eq dX4_add_88 rfl))) (ok_t_n (ok_t_l (ok_aload_n dX4_add_91 rfl)) (ok_t_n (ok_t_l (ok_getfieldN dX4_add_92 (ci := 5) (kf := 2) rfl inGX5 (by decide) (nst_24))) (ok_t_l (ok_iload dX4_add_95))))) (ok_t_n (ok_t_n (ok_t_l (ok_inv (run_V (y := 144) (n := 1) (ci := 9) dX4_add_97 cz_144 gdG cc_144 ci_144 w_682 cm_144 cs_144 cd_144 cl_144 rfl rfl))) (ok_t_l (ok_if_ne dX4_add_100 rfl))) (ok_t_n (ok_t_l (ok_aload_n dX4_add_103 rfl)) (ok_t_n (ok_t_l (ok_getfield dX4_add_104 (ci := 4) (kf := 2) rfl inGX4 (by decide) w_1054)) (ok_t_l (ok_iload_n dX4_add_107 rfl))))))) (ok_t_n (ok_t_n (ok_t_n (ok_t_n (ok_t_l (ok_dup2 dX4_add_108)) (ok_t_l (ok_iaload dX4_add_109))) (ok_t_n (ok_t_l (ok_iconst dX4_add_110 rfl)) (ok_t_n (ok_t_l (ok_iload dX4_add_111)) (ok_t_l (ok_ishl dX4_add_113))))) (ok_t_n (ok_t_n (ok_t_l (ok_ior dX4_add_114)) (ok_t_l (ok_iastore dX4_add_115))) (ok_t_n (ok_t_l (ok_aload_n dX4_add_116 rfl)) (ok_t_n (ok_t_l (ok_getfield dX4_add_117 (ci := 4) (kf := 4) rfl inGX4 (by decide) w_1056)) (ok_t_l (ok_iload_n dX4_add_120 rfl)))))) (ok_t_n (ok_t_n (ok_t_n (ok_t_l (ok_bipush dX4_add_121 rfl)) (ok_t_l (ok_imul dX4_add_123))) (ok_t_n (ok_t_l (ok_iload dX4_add_124)) (ok_t_n (ok_t_l (ok_iadd dX4_add_126)) (ok_t_l (ok_iload dX4_add_127))))) (ok_t_n (ok_t_n (ok_t_l (ok_iastore dX4_add_129)) (ok_t_l (ok_iinc dX4_add_130 rfl))) (ok_t_n (ok_t_l (ok_goto dX4_add_133 rfl)) (ok_t_n (ok_t_l (ok_iload_n dX4_add_136 rfl)) (ok_t_l (ok_ireturn dX4_add_137)))))))))
theorem dX4_neededNow_0 : decode cX4_neededNow 0 = .ok (.aload_n 0, 1) := by decide +kernel
theorem dX4_neededNow_1 : decode cX4_neededNow 1 = .ok (.iload_n 1, 1) := by decide +kernel
theorem dX4_neededNow_2 : decode cX4_neededNow 2 = .ok (.invokevirtual 61, 3) := by decide +kernel
theorem dX4_neededNow_5 : decode cX4_neededNow 5 = .ok (.ifCond .eq 21, 3) := by decide +kernel
theorem dX4_neededNow_8 : decode cX4_neededNow 8 = .ok (.aload_n 0, 1) := by decide +kernel
theorem dX4_neededNow_9 : decode cX4_neededNow 9 = .ok (.getfield 15, 3) := by decide +kernel
theorem dX4_neededNow_12 : decode cX4_neededNow 12 = .ok (.iload_n 1, 1) := by decide +kernel
theorem dX4_neededNow_13 : decode cX4_neededNow 13 = .ok (.iaload, 1) := by decide +kernel
theorem dX4_neededNow_14 : decode cX4_neededNow 14 = .ok (.iconst 1, 1) := by decide +kernel
theorem dX4_neededNow_15 : decode cX4_neededNow 15 = .ok (.aload_n 0, 1) := by decide +kernel
theorem dX4_neededNow_16 : decode cX4_neededNow 16 = .ok (.getfield 52, 3) := by decide +kernel
theorem dX4_neededNow_19 : decode cX4_neededNow 19 = .ok (.ishl, 1) := by decide +kernel
theorem dX4_neededNow_20 : decode cX4_neededNow 20 = .ok (.iconst 1, 1) := by decide +kernel
theorem dX4_neededNow_21 : decode cX4_neededNow 21 = .ok (.isub, 1) := by decide +kernel
theorem dX4_neededNow_22 : decode cX4_neededNow 22 = .ok (.iand, 1) := by decide +kernel
theorem dX4_neededNow_23 : decode cX4_neededNow 23 = .ok (.goto 4, 3) := by decide +kernel
theorem dX4_neededNow_26 : decode cX4_neededNow 26 = .ok (.iconst 0, 1) := by decide +kernel
theorem dX4_neededNow_27 : decode cX4_neededNow 27 = .ok (.ireturn, 1) := by decide +kernel
def g_X4_neededNow : Nat → EA := (t_n 15 (t_n 8 (t_n 2 (t_n 1 (t_l 0 (a_aload 1 0)) (t_l 1 (a_iload 1 1))) (t_n 5 (t_l 2 (a_inv true 43 2 (some 4))) (t_l 5 (a_if 26 (fun x => decide (x = 0)))))) (t_n 12 (t_n 9 (t_l 8 (a_aload 1 0)) (t_l 9 (a_getf 4 1))) (t_n 13 (t_l 12 (a_iload 1 1)) (t_n 14 (t_l 13 (a_ild 0)) (t_l 14 (a_push 1 (.int 1))))))) (t_n 21 (t_n 19 (t_n 16 (t_l 15 (a_aload 1 0)) (t_l 16 (a_getf 4 13))) (t_n 20 (t_l 19 (a_ii 1 (fun x y => x <<< (y &&& 31)))) (t_l 20 (a_push 1 (.int 1))))) (t_n 23 (t_n 22 (t_l 21 (a_ii 1 (fun x y => x - y))) (t_l 22 (a_ii 1 (fun x y => x &&& y)))) (t_n 26 (t_l 23 (a_goto 27)) (t_n 27 (t_l 26 (a_push 1 (.int 0))) (t_l 27 a_iret))))))
set_option maxRecDepth 100000 in
theorem k_X4_neededNow (sc : Nat × (Nat → Int32)) (d : Nat) : ∀ pc, ev_Ok cX4_neededNow 2 [] RX4 lw_g lw_n (lw_q sc) vwCl false (ev_CO mt lw_g lw_n (lw_q sc) vwCl d) pc (g_X4_neededNow pc) := (ok_t_n (ok_t_n (ok_t_n (ok_t_n (ok_t_l (ok_aload_n dX4_neededNow_0 rfl)) (ok_t_l (ok_iload_n dX4_neededNow_1 rfl))) (ok_t_n (ok_t_l (ok_inv (run_V (y := 43) (n := 1) (ci := 4) dX4_neededNow_2 cz_43 gdG cc_43 ci_43 w_696 cm_43 cs_43 cd_43 cl_43 rfl rfl))) (ok_t_l (ok_if_eq dX4_neededNow_5 rfl)))) (ok_t_n (ok_t_n (ok_t_l (ok_aload_n dX4_neededNow_8 rfl)) (ok_t_l (ok_getfield dX4_neededNow_9 (ci := 4) (kf := 1) rfl inGX4 (by decide) w_1053))) (ok_t_n (ok_t_l (ok_iload_n dX4_neededNow_12 rfl)) (ok_t_n (ok_t_l (ok_iaload dX4_neededNow_13)) (ok_t_l (ok_iconst dX4_neededNow_14 rfl)))))) (ok_t_n (ok_t_n (ok_t_n (ok_t_l (ok_aload_n dX4_neededNow_15 rfl)) (ok_t_l (ok_getfield dX4_neededNow_16 (ci := 4) (kf := 13) rfl inGX4 (by decide) w_1065))) (ok_t_n (ok_t_l (ok_ishl dX4_neededNow_19)) (ok_t_l (ok_iconst dX4_neededNow_20 rfl)))) (ok_t_n (ok_t_n (ok_t_l (ok_isub dX4_neededNow_21)) (ok_t_l (ok_iand dX4_neededNow_22))) (ok_t_n (ok_t_l (ok_goto dX4_neededNow_23 rfl)) (ok_t_n (ok_t_l (ok_iconst dX4_neededNow_26 rfl)) (ok_t_l (ok_ireturn dX4_neededNow_27)))))))
theorem dX4_loaded_0 : decode cX4_loaded 0 = .ok (.iconst 0, 1) := by decide +kernel
theorem dX4_loaded_1 : decode cX4_loaded 1 = .ok (.istore_n 1, 1) := by decide +kernel
theorem dX4_loaded_2 : decode cX4_loaded 2 = .ok (.iconst 0, 1) := by decide +kernel
theorem dX4_loaded_3 : decode cX4_loaded 3 = .ok (.istore_n 2, 1) := by decide +kernel
theorem dX4_loaded_4 : decode cX4_loaded 4 = .ok (.iload_n 2, 1) := by decide +kernel
theorem dX4_loaded_5 : decode cX4_loaded 5 = .ok (.bipush 6, 2) := by decide +kernel
theorem dX4_loaded_7 : decode cX4_loaded 7 = .ok (.if_icmp .ge 23, 3) := by decide +kernel
theorem dX4_loaded_10 : decode cX4_loaded 10 = .ok (.aload_n 0, 1) := by decide +kernel
theorem dX4_loaded_11 : decode cX4_loaded 11 = .ok (.iload_n 2, 1) := by decide +kernel
theorem dX4_loaded_12 : decode cX4_loaded 12 = .ok (.invokevirtual 139, 3) := by decide +kernel
theorem dX4_loaded_15 : decode cX4_loaded 15 = .ok (.ifCond .eq 9, 3) := by decide +kernel
theorem dX4_loaded_18 : decode cX4_loaded 18 = .ok (.iload_n 1, 1) := by decide +kernel
theorem dX4_loaded_19 : decode cX4_loaded 19 = .ok (.iconst 1, 1) := by decide +kernel
theorem dX4_loaded_20 : decode cX4_loaded 20 = .ok (.iload_n 2, 1) := by decide +kernel
theorem dX4_loaded_21 : decode cX4_loaded 21 = .ok (.ishl, 1) := by decide +kernel
theorem dX4_loaded_22 : decode cX4_loaded 22 = .ok (.ior, 1) := by decide +kernel
theorem dX4_loaded_23 : decode cX4_loaded 23 = .ok (.istore_n 1, 1) := by decide +kernel
theorem dX4_loaded_24 : decode cX4_loaded 24 = .ok (.iinc 2 1, 3) := by decide +kernel
theorem dX4_loaded_27 : decode cX4_loaded 27 = .ok (.goto (-23), 3) := by decide +kernel
theorem dX4_loaded_30 : decode cX4_loaded 30 = .ok (.iload_n 1, 1) := by decide +kernel
theorem dX4_loaded_31 : decode cX4_loaded 31 = .ok (.ireturn, 1) := by decide +kernel
def g_X4_loaded : Nat → EA := (t_n 15 (t_n 5 (t_n 2 (t_n 1 (t_l 0 (a_push 1 (.int 0))) (t_l 1 (a_istore 3 1 1))) (t_n 3 (t_l 2 (a_push 1 (.int 0))) (t_n 4 (t_l 3 (a_istore 3 1 2)) (t_l 4 (a_iload 1 2))))) (t_n 10 (t_n 7 (t_l 5 (a_push 2 (.int 6))) (t_l 7 (a_ic 30 (fun x y => decide (y ≤ x))))) (t_n 11 (t_l 10 (a_aload 1 0)) (t_n 12 (t_l 11 (a_iload 1 2)) (t_l 12 (a_inv true 50 2 (some 4))))))) (t_n 22 (t_n 19 (t_n 18 (t_l 15 (a_if 24 (fun x => decide (x = 0)))) (t_l 18 (a_iload 1 1))) (t_n 20 (t_l 19 (a_push 1 (.int 1))) (t_n 21 (t_l 20 (a_iload 1 2)) (t_l 21 (a_ii 1 (fun x y => x <<< (y &&& 31))))))) (t_n 27 (t_n 23 (t_l 22 (a_ii 1 (fun x y => x ||| y))) (t_n 24 (t_l 23 (a_istore 3 1 1)) (t_l 24 (a_iinc 3 2 1)))) (t_n 30 (t_l 27 (a_goto 4)) (t_n 31 (t_l 30 (a_iload 1 1)) (t_l 31 a_iret))))))
set_option maxRecDepth 100000 in
theorem k_X4_loaded (sc : Nat × (Nat → Int32)) (d : Nat) : ∀ pc, ev_Ok cX4_loaded 3 [] RX4 lw_g lw_n (lw_q sc) vwCl false (ev_CO mt lw_g lw_n (lw_q sc) vwCl d) pc (g_X4_loaded pc) := (ok_t_n (ok_t_n (ok_t_n (ok_t_n (ok_t_l (ok_iconst dX4_loaded_0 rfl)) (ok_t_l (ok_istore_n dX4_loaded_1 rfl))) (ok_t_n (ok_t_l (ok_iconst dX4_loaded_2 rfl)) (ok_t_n (ok_t_l (ok_istore_n dX4_loaded_3 rfl)) (ok_t_l (ok_iload_n dX4_loaded_4 rfl))))) (ok_t_n (ok_t_n (ok_t_l (ok_bipush dX4_loaded_5 rfl)) (ok_t_l (ok_icmp_ge dX4_loaded_7 rfl))) (ok_t_n (ok_t_l (ok_aload_n dX4_loaded_10 rfl)) (ok_t_n (ok_t_l (ok_iload_n dX4_loaded_11 rfl)) (ok_t_l (ok_inv (run_V (y := 50) (n := 1) (ci := 4) dX4_loaded_12 cz_50 gdG cc_50 ci_50 w_707 cm_50 cs_50 cd_50 cl_50 rfl rfl))))))) (ok_t_n (ok_t_n (ok_t_n (ok_t_l (ok_if_eq dX4_loaded_15 rfl)) (ok_t_l (ok_iload_n dX4_loaded_18 rfl))) (ok_t_n (ok_t_l (ok_iconst dX4_loaded_19 rfl)) (ok_t_n (ok_t_l (ok_iload_n dX4_loaded_20 rfl)) (ok_t_l (ok_ishl dX4_loaded_21))))) (ok_t_n (ok_t_n (ok_t_l (ok_ior dX4_loaded_22)) (ok_t_n (ok_t_l (ok_istore_n dX4_loaded_23 rfl)) (ok_t_l (ok_iinc dX4_loaded_24 rfl)))) (ok_t_n (ok_t_l (ok_goto dX4_loaded_27 rfl)) (ok_t_n (ok_t_l (ok_iload_n dX4_loaded_30 rfl)) (ok_t_l (ok_ireturn dX4_loaded_31)))))))
theorem dX4_fillRow_0 : decode cX4_fillRow 0 = .ok (.aload_n 0, 1) := by decide +kernel
theorem dX4_fillRow_1 : decode cX4_fillRow 1 = .ok (.getfield 42, 3) := by decide +kernel
theorem dX4_fillRow_4 : decode cX4_fillRow 4 = .ok (.iconst 0, 1) := by decide +kernel
theorem dX4_fillRow_5 : decode cX4_fillRow 5 = .ok (.iload_n 1, 1) := by decide +kernel
theorem dX4_fillRow_6 : decode cX4_fillRow 6 = .ok (.iastore, 1) := by decide +kernel
theorem dX4_fillRow_7 : decode cX4_fillRow 7 = .ok (.aload_n 0, 1) := by decide +kernel
theorem dX4_fillRow_8 : decode cX4_fillRow 8 = .ok (.iconst 1, 1) := by decide +kernel
theorem dX4_fillRow_9 : decode cX4_fillRow 9 = .ok (.iload_n 1, 1) := by decide +kernel
theorem dX4_fillRow_10 : decode cX4_fillRow 10 = .ok (.ishl, 1) := by decide +kernel
theorem dX4_fillRow_11 : decode cX4_fillRow 11 = .ok (.putfield 48, 3) := by decide +kernel
theorem dX4_fillRow_14 : decode cX4_fillRow 14 = .ok (.iconst 1, 1) := by decide +kernel
theorem dX4_fillRow_15 : decode cX4_fillRow 15 = .ok (.istore_n 2, 1) := by decide +kernel
theorem dX4_fillRow_16 : decode cX4_fillRow 16 = .ok (.iconst 0, 1) := by decide +kernel
theorem dX4_fillRow_17 : decode cX4_fillRow 17 = .ok (.istore_n 3, 1) := by decide +kernel
theorem dX4_fillRow_18 : decode cX4_fillRow 18 = .ok (.iload_n 3, 1) := by decide +kernel
theorem dX4_fillRow_19 : decode cX4_fillRow 19 = .ok (.iload_n 2, 1) := by decide +kernel
theorem dX4_fillRow_20 : decode cX4_fillRow 20 = .ok (.if_icmp .ge 90, 3) := by decide +kernel
theorem dX4_fillRow_23 : decode cX4_fillRow 23 = .ok (.iload_n 3, 1) := by decide +kernel
theorem dX4_fillRow_24 : decode cX4_fillRow 24 = .ok (.bipush 6, 2) := by decide +kernel
theorem dX4_fillRow_26 : decode cX4_fillRow 26 = .ok (.if_icmp .ge 84, 3) := by decide +kernel
theorem dX4_fillRow_29 : decode cX4_fillRow 29 = .ok (.aload_n 0, 1) := by decide +kernel
theorem dX4_fillRow_30 : decode cX4_fillRow 30 = .ok (.aload_n 0, 1) := by decide +kernel
theorem dX4_fillRow_31 : decode cX4_fillRow 31 = .ok (.getfield 42, 3) := by decide +kernel
theorem dX4_fillRow_34 : decode cX4_fillRow 34 = .ok (.iload_n 3, 1) := by decide +kernel
theorem dX4_fillRow_35 : decode cX4_fillRow 35 = .ok (.iaload, 1) := by decide +kernel
theorem dX4_fillRow_36 : decode cX4_fillRow 36 = .ok (.invokevirtual 142, 3) := by decide +kernel
theorem dX4_fillRow_39 : decode cX4_fillRow 39 = .ok (.istore 4, 2) := by decide +kernel
theorem dX4_fillRow_41 : decode cX4_fillRow 41 = .ok (.iconst 0, 1) := by decide +kernel
theorem dX4_fillRow_42 : decode cX4_fillRow 42 = .ok (.istore 5, 2) := by decide +kernel
theorem dX4_fillRow_44 : decode cX4_fillRow 44 = .ok (.iload 5, 2) := by decide +kernel
theorem dX4_fillRow_46 : decode cX4_fillRow 46 = .ok (.bipush 6, 2) := by decide +kernel
theorem dX4_fillRow_48 : decode cX4_fillRow 48 = .ok (.if_icmp .ge 56, 3) := by decide +kernel
theorem dX4_fillRow_51 : decode cX4_fillRow 51 = .ok (.iload 4, 2) := by decide +kernel
theorem dX4_fillRow_53 : decode cX4_fillRow 53 = .ok (.aload_n 0, 1) := by decide +kernel
theorem dX4_fillRow_54 : decode cX4_fillRow 54 = .ok (.getfield 48, 3) := by decide +kernel
theorem dX4_fillRow_57 : decode cX4_fillRow 57 = .ok (.iconst (-1), 1) := by decide +kernel
theorem dX4_fillRow_58 : decode cX4_fillRow 58 = .ok (.ixor, 1) := by decide +kernel
theorem dX4_fillRow_59 : decode cX4_fillRow 59 = .ok (.iand, 1) := by decide +kernel
theorem dX4_fillRow_60 : decode cX4_fillRow 60 = .ok (.iload 5, 2) := by decide +kernel
theorem dX4_fillRow_62 : decode cX4_fillRow 62 = .ok (.invokestatic 75, 3) := by decide +kernel
theorem dX4_fillRow_65 : decode cX4_fillRow 65 = .ok (.ifCond .eq 33, 3) := by decide +kernel
theorem dX4_fillRow_68 : decode cX4_fillRow 68 = .ok (.iload_n 2, 1) := by decide +kernel
theorem dX4_fillRow_69 : decode cX4_fillRow 69 = .ok (.bipush 6, 2) := by decide +kernel
theorem dX4_fillRow_71 : decode cX4_fillRow 71 = .ok (.if_icmp .ge 27, 3) := by decide +kernel
theorem dX4_fillRow_74 : decode cX4_fillRow 74 = .ok (.aload_n 0, 1) := by decide +kernel
theorem dX4_fillRow_75 : decode cX4_fillRow 75 = .ok (.getfield 42, 3) := by decide +kernel
theorem dX4_fillRow_78 : decode cX4_fillRow 78 = .ok (.iload_n 2, 1) := by decide +kernel
theorem dX4_fillRow_79 : decode cX4_fillRow 79 = .ok (.iload 5, 2) := by decide +kernel
theorem dX4_fillRow_81 : decode cX4_fillRow 81 = .ok (.iastore, 1) := by decide +kernel
theorem dX4_fillRow_82 : decode cX4_fillRow 82 = .ok (.iinc 2 1, 3) := by decide +kernel
theorem dX4_fillRow_85 : decode cX4_fillRow 85 = .ok (.aload_n 0, 1) := by decide +kernel
theorem dX4_fillRow_86 : decode cX4_fillRow 86 = .ok (.dup, 1) := by decide +kernel
theorem dX4_fillRow_87 : decode cX4_fillRow 87 = .ok (.getfield 48, 3) := by decide +kernel
theorem dX4_fillRow_90 : decode cX4_fillRow 90 = .ok (.iconst 1, 1) := by decide +kernel
theorem dX4_fillRow_91 : decode cX4_fillRow 91 = .ok (.iload 5, 2) := by decide +kernel
theorem dX4_fillRow_93 : decode cX4_fillRow 93 = .ok (.ishl, 1) := by decide +kernel
theorem dX4_fillRow_94 : decode cX4_fillRow 94 = .ok (.ior, 1) := by decide +kernel
theorem dX4_fillRow_95 : decode cX4_fillRow 95 = .ok (.putfield 48, 3) := by decide +kernel
theorem dX4_fillRow_98 : decode cX4_fillRow 98 = .ok (.iinc 5 1, 3) := by decide +kernel
theorem dX4_fillRow_101 : decode cX4_fillRow 101 = .ok (.goto (-57), 3) := by decide +kernel
theorem dX4_fillRow_104 : decode cX4_fillRow 104 = .ok (.iinc 3 1, 3) := by decide +kernel
theorem dX4_fillRow_107 : decode cX4_fillRow 107 = .ok (.goto (-89), 3) := by decide +kernel
theorem dX4_fillRow_110 : decode cX4_fillRow 110 = .ok (.iload_n 2, 1) := by decide +kernel
theorem dX4_fillRow_111 : decode cX4_fillRow 111 = .ok (.ireturn, 1) := by decide +kernel
def g_X4_fillRow : Nat → EA := (t_n 51 (t_n 20 (t_n 10 (t_n 6 (t_n 4 (t_n 1 (t_l 0 (a_aload 1 0)) (t_l 1 (a_getf 4 10))) (t_n 5 (t_l 4 (a_push 1 (.int 0))) (t_l 5 (a_iload 1 1)))) (t_n 8 (t_n 7 (t_l 6 (a_ist 0)) (t_l 7 (a_aload 1 0))) (t_n 9 (t_l 8 (a_push 1 (.int 1))) (t_l 9 (a_iload 1 1))))) (t_n 16 (t_n 14 (t_n 11 (t_l 10 (a_ii 1 (fun x y => x <<< (y &&& 31)))) (t_l 11 (a_putf 0 4 12))) (t_n 15 (t_l 14 (a_push 1 (.int 1))) (t_l 15 (a_istore 6 1 2)))) (t_n 18 (t_n 17 (t_l 16 (a_push 1 (.int 0))) (t_l 17 (a_istore 6 1 3))) (t_n 19 (t_l 18 (a_iload 1 3)) (t_l 19 (a_iload 1 2)))))) (t_n 35 (t_n 29 (t_n 24 (t_n 23 (t_l 20 (a_ic 110 (fun x y => decide (y ≤ x)))) (t_l 23 (a_iload 1 3))) (t_n 26 (t_l 24 (a_push 2 (.int 6))) (t_l 26 (a_ic 110 (fun x y => decide (y ≤ x)))))) (t_n 31 (t_n 30 (t_l 29 (a_aload 1 0)) (t_l 30 (a_aload 1 0))) (t_n 34 (t_l 31 (a_getf 4 10)) (t_l 34 (a_iload 1 3))))) (t_n 42 (t_n 39 (t_n 36 (t_l 35 (a_ild 0)) (t_l 36 (a_inv true 63 2 (some 4)))) (t_n 41 (t_l 39 (a_istore 6 2 4)) (t_l 41 (a_push 1 (.int 0))))) (t_n 46 (t_n 44 (t_l 42 (a_istore 6 2 5)) (t_l 44 (a_iload 2 5))) (t_n 48 (t_l 46 (a_push 2 (.int 6))) (t_l 48 (a_ic 104 (fun x y => decide (y ≤ x))))))))) (t_n 81 (t_n 65 (t_n 58 (t_n 54 (t_n 53 (t_l 51 (a_iload 2 4)) (t_l 53 (a_aload 1 0))) (t_n 57 (t_l 54 (a_getf 4 12)) (t_l 57 (a_push 1 (.int (-1)))))) (t_n 60 (t_n 59 (t_l 58 (a_ii 1 (fun x y => x ^^^ y))) (t_l 59 (a_ii 1 (fun x y => x &&& y)))) (t_n 62 (t_l 60 (a_iload 2 5)) (t_l 62 (a_inv false 196 2 none))))) (t_n 74 (t_n 69 (t_n 68 (t_l 65 (a_if 98 (fun x => decide (x = 0)))) (t_l 68 (a_iload 1 2))) (t_n 71 (t_l 69 (a_push 2 (.int 6))) (t_l 71 (a_ic 98 (fun x y => decide (y ≤ x)))))) (t_n 78 (t_n 75 (t_l 74 (a_aload 1 0)) (t_l 75 (a_getf 4 10))) (t_n 79 (t_l 78 (a_iload 1 2)) (t_l 79 (a_iload 2 5)))))) (t_n 94 (t_n 87 (t_n 85 (t_n 82 (t_l 81 (a_ist 0)) (t_l 82 (a_iinc 6 2 1))) (t_n 86 (t_l 85 (a_aload 1 0)) (t_l 86 a_dup))) (t_n 91 (t_n 90 (t_l 87 (a_getf 4 12)) (t_l 90 (a_push 1 (.int 1)))) (t_n 93 (t_l 91 (a_iload 2 5)) (t_l 93 (a_ii 1 (fun x y => x <<< (y &&& 31))))))) (t_n 104 (t_n 98 (t_n 95 (t_l 94 (a_ii 1 (fun x y => x ||| y))) (t_l 95 (a_putf 0 4 12))) (t_n 101 (t_l 98 (a_iinc 6 5 1)) (t_l 101 (a_goto 44)))) (t_n 110 (t_n 107 (t_l 104 (a_iinc 6 3 1)) (t_l 107 (a_goto 18))) (t_n 111 (t_l 110 (a_iload 1 2)) (t_l 111 a_iret)))))))
set_option maxRecDepth 100000 in
theorem k_X4_fillRow (sc : Nat × (Nat → Int32)) (d : Nat) : ∀ pc, ev_Ok cX4_fillRow 6 [] RX4 lw_g lw_n (lw_q sc) vwCl false (ev_CO mt lw_g lw_n (lw_q sc) vwCl d) pc (g_X4_fillRow pc) := (ok_t_n (ok_t_n (ok_t_n (ok_t_n (ok_t_n (ok_t_n (ok_t_l (ok_aload_n dX4_fillRow_0 rfl)) (ok_t_l (ok_getfield dX4_fillRow_1 (ci := 4) (kf := 10) rfl inGX4 (by decide) w_1062))) (ok_t_n (ok_t_l (ok_iconst dX4_fillRow_4 rfl)) (ok_t_l (ok_iload_n dX4_fillRow_5 rfl)))) (ok_t_n (ok_t_n (ok_t_l (ok_iastore dX4_fillRow_6)) (ok_t_l (ok_aload_n dX4_fillRow_7 rfl))) (ok_t_n (ok_t_l (ok_iconst dX4_fillRow_8 rfl)) (ok_t_l (ok_iload_n dX4_fillRow_9 rfl))))) (ok_t_n (ok_t_n (ok_t_n (ok_t_l (ok_ishl dX4_fillRow_10)) (ok_t_l (ok_putfield dX4_fillRow_11 (ci := 4) (kf := 12) rfl inGX4 (by decide) tyX4_ok nmX4 rfl w_1064 rfl))) (ok_t_n (ok_t_l (ok_iconst dX4_fillRow_14 rfl)) (ok_t_l (ok_istore_n dX4_fillRow_15 rfl)))) (ok_t_n (ok_t_n (ok_t_l (ok_iconst dX4_fillRow_16 rfl)) (ok_t_l (ok_istore_n dX4_fillRow_17 rfl))) (ok_t_n (ok_t_l (ok_iload_n dX4_fillRow_18 rfl)) (ok_t_l (ok_iload_n dX4_fillRow_19 rfl)))))) (ok_t_n (ok_t_n (ok_t_n (ok_t_n (ok_t_l (ok_icmp_ge dX4_fillRow_20 rfl)) (ok_t_l (ok_iload_n dX4_fillRow_23 rfl))) (ok_t_n (ok_t_l (ok_bipush dX4_fillRow_24 rfl)) (ok_t_l (ok_icmp_ge dX4_fillRow_26 rfl)))) (ok_t_n (ok_t_n (ok_t_l (ok_aload_n dX4_fillRow_29 rfl)) (ok_t_l (ok_aload_n dX4_fillRow_30 rfl))) (ok_t_n (ok_t_l (ok_getfield dX4_fillRow_31 (ci := 4) (kf := 10) rfl inGX4 (by decide) w_1062)) (ok_t_l (ok_iload_n dX4_fillRow_34 rfl))))) (ok_t_n (ok_t_n (ok_t_n (ok_t_l (ok_iaload dX4_fillRow_35)) (ok_t_l (ok_inv (run_V (y := 63) (n := 1) (ci := 4) dX4_fillRow_36 cz_63 gdG cc_63 ci_63 w_702 cm_63 cs_63 cd_63 cl_63 rfl rfl)))) (ok_t_n (ok_t_l (ok_istore dX4_fillRow_39)) (ok_t_l (ok_iconst dX4_fillRow_41 rfl)))) (ok_t_n (ok_t_n (ok_t_l (ok_istore dX4_fillRow_42)) (ok_t_l (ok_iload dX4_fillRow_44))) (ok_t_n (ok_t_l (ok_bipush dX4_fillRow_46 rfl)) (ok_t_l (ok_icmp_ge dX4_fillRow_48 rfl))))))) (ok_t_n (ok_t_n (ok_t_n (ok_t_n (ok_t_n (ok_t_l (ok_iload dX4_fillRow_51)) (ok_t_l (ok_aload_n dX4_fillRow_53 rfl))) (ok_t_n (ok_t_l (ok_getfield dX4_fillRow_54 (ci := 4) (kf := 12) rfl inGX4 (by decide) w_1064)) (ok_t_l (ok_iconst dX4_fillRow_57 rfl)))) (ok_t_n (ok_t_n (ok_t_l (ok_ixor dX4_fillRow_58)) (ok_t_l (ok_iand dX4_fillRow_59))) (ok_t_n (ok_t_l (ok_iload dX4_fillRow_60)) (ok_t_l (ok_inv (run_SN (y := 196) (n := 2) dX4_fillRow_62 cz_196 gdG cc_196 ci_196 nst_13 cm_196 cd_196 cl_196)))))) (ok_t_n (ok_t_n (ok_t_n (ok_t_l (ok_if_eq dX4_fillRow_65 rfl)) (ok_t_l (ok_iload_n dX4_fillRow_68 rfl))) (ok_t_n (ok_t_l (ok_bipush dX4_fillRow_69 rfl)) (ok_t_l (ok_icmp_ge dX4_fillRow_71 rfl)))) (ok_t_n (ok_t_n (ok_t_l (ok_aload_n dX4_fillRow_74 rfl)) (ok_t_l (ok_getfield dX4_fillRow_75 (ci := 4) (kf := 10) rfl inGX4 (by decide) w_1062))) (ok_t_n (ok_t_l (ok_iload_n dX4_fillRow_78 rfl)) (ok_t_l (ok_iload dX4_fillRow_79)))))) (ok_t_n (ok_t_n (ok_t_n (ok_t_n (ok_t_l (ok_iastore dX4_fillRow_81)) (ok_t_l (ok_iinc dX4_fillRow_82 rfl))) (ok_t_n (ok_t_l (ok_aload_n dX4_fillRow_85 rfl)) (ok_t_l (ok_dup dX4_fillRow_86)))) (ok_t_n (ok_t_n (ok_t_l (ok_getfield dX4_fillRow_87 (ci := 4) (kf := 12) rfl inGX4 (by decide) w_1064)) (ok_t_l (ok_iconst dX4_fillRow_90 rfl))) (ok_t_n (ok_t_l (ok_iload dX4_fillRow_91)) (ok_t_l (ok_ishl dX4_fillRow_93))))) (ok_t_n (ok_t_n (ok_t_n (ok_t_l (ok_ior dX4_fillRow_94)) (ok_t_l (ok_putfield dX4_fillRow_95 (ci := 4) (kf := 12) rfl inGX4 (by decide) tyX4_ok nmX4 rfl w_1064 rfl))) (ok_t_n (ok_t_l (ok_iinc dX4_fillRow_98 rfl)) (ok_t_l (ok_goto dX4_fillRow_101 rfl)))) (ok_t_n (ok_t_n (ok_t_l (ok_iinc dX4_fillRow_104 rfl)) (ok_t_l (ok_goto dX4_fillRow_107 rfl))) (ok_t_n (ok_t_l (ok_iload_n dX4_fillRow_110 rfl)) (ok_t_l (ok_ireturn dX4_fillRow_111))))))))
theorem dX4_openOne_0 : decode cX4_openOne 0 = .ok (.aload_n 0, 1) := by decide +kernel
theorem dX4_openOne_1 : decode cX4_openOne 1 = .ok (.iload_n 1, 1) := by decide +kernel
theorem dX4_openOne_2 : decode cX4_openOne 2 = .ok (.invokevirtual 61, 3) := by decide +kernel
theorem dX4_openOne_5 : decode cX4_openOne 5 = .ok (.ifCond .ne 5, 3) := by decide +kernel
theorem dX4_openOne_8 : decode cX4_openOne 8 = .ok (.iconst 0, 1) := by decide +kernel
theorem dX4_openOne_9 : decode cX4_openOne 9 = .ok (.ireturn, 1) := by decide +kernel
theorem dX4_openOne_10 : decode cX4_openOne 10 = .ok (.aload_n 0, 1) := by decide +kernel
theorem dX4_openOne_11 : decode cX4_openOne 11 = .ok (.getfield 27, 3) := by decide +kernel
theorem dX4_openOne_14 : decode cX4_openOne 14 = .ok (.iload_n 1, 1) := by decide +kernel
theorem dX4_openOne_15 : decode cX4_openOne 15 = .ok (.dup2, 1) := by decide +kernel
theorem dX4_openOne_16 : decode cX4_openOne 16 = .ok (.iaload, 1) := by decide +kernel
theorem dX4_openOne_17 : decode cX4_openOne 17 = .ok (.iconst 1, 1) := by decide +kernel
theorem dX4_openOne_18 : decode cX4_openOne 18 = .ok (.iadd, 1) := by decide +kernel
theorem dX4_openOne_19 : decode cX4_openOne 19 = .ok (.iastore, 1) := by decide +kernel
theorem dX4_openOne_20 : decode cX4_openOne 20 = .ok (.aload_n 0, 1) := by decide +kernel
theorem dX4_openOne_21 : decode cX4_openOne 21 = .ok (.iload_n 1, 1) := by decide +kernel
theorem dX4_openOne_22 : decode cX4_openOne 22 = .ok (.invokevirtual 145, 3) := by decide +kernel
theorem dX4_openOne_25 : decode cX4_openOne 25 = .ok (.istore_n 3, 1) := by decide +kernel
theorem dX4_openOne_26 : decode cX4_openOne 26 = .ok (.iconst 0, 1) := by decide +kernel
theorem dX4_openOne_27 : decode cX4_openOne 27 = .ok (.istore 4, 2) := by decide +kernel
theorem dX4_openOne_29 : decode cX4_openOne 29 = .ok (.iconst 0, 1) := by decide +kernel
theorem dX4_openOne_30 : decode cX4_openOne 30 = .ok (.istore 5, 2) := by decide +kernel
theorem dX4_openOne_32 : decode cX4_openOne 32 = .ok (.iload 5, 2) := by decide +kernel
theorem dX4_openOne_34 : decode cX4_openOne 34 = .ok (.iload_n 3, 1) := by decide +kernel
theorem dX4_openOne_35 : decode cX4_openOne 35 = .ok (.if_icmp .ge 55, 3) := by decide +kernel
theorem dX4_openOne_38 : decode cX4_openOne 38 = .ok (.iload 5, 2) := by decide +kernel
theorem dX4_openOne_40 : decode cX4_openOne 40 = .ok (.bipush 6, 2) := by decide +kernel
theorem dX4_openOne_42 : decode cX4_openOne 42 = .ok (.if_icmp .ge 48, 3) := by decide +kernel
theorem dX4_openOne_45 : decode cX4_openOne 45 = .ok (.aload_n 0, 1) := by decide +kernel
theorem dX4_openOne_46 : decode cX4_openOne 46 = .ok (.aload_n 0, 1) := by decide +kernel
theorem dX4_openOne_47 : decode cX4_openOne 47 = .ok (.getfield 42, 3) := by decide +kernel
theorem dX4_openOne_50 : decode cX4_openOne 50 = .ok (.iload 5, 2) := by decide +kernel
theorem dX4_openOne_52 : decode cX4_openOne 52 = .ok (.iaload, 1) := by decide +kernel
theorem dX4_openOne_53 : decode cX4_openOne 53 = .ok (.invokevirtual 139, 3) := by decide +kernel
theorem dX4_openOne_56 : decode cX4_openOne 56 = .ok (.ifCond .ne 28, 3) := by decide +kernel
theorem dX4_openOne_59 : decode cX4_openOne 59 = .ok (.aload_n 0, 1) := by decide +kernel
theorem dX4_openOne_60 : decode cX4_openOne 60 = .ok (.aload_n 0, 1) := by decide +kernel
theorem dX4_openOne_61 : decode cX4_openOne 61 = .ok (.getfield 42, 3) := by decide +kernel
theorem dX4_openOne_64 : decode cX4_openOne 64 = .ok (.iload 5, 2) := by decide +kernel
theorem dX4_openOne_66 : decode cX4_openOne 66 = .ok (.iaload, 1) := by decide +kernel
theorem dX4_openOne_67 : decode cX4_openOne 67 = .ok (.invokevirtual 148, 3) := by decide +kernel
theorem dX4_openOne_70 : decode cX4_openOne 70 = .ok (.iload 4, 2) := by decide +kernel
theorem dX4_openOne_72 : decode cX4_openOne 72 = .ok (.iconst 1, 1) := by decide +kernel
theorem dX4_openOne_73 : decode cX4_openOne 73 = .ok (.aload_n 0, 1) := by decide +kernel
theorem dX4_openOne_74 : decode cX4_openOne 74 = .ok (.getfield 42, 3) := by decide +kernel
theorem dX4_openOne_77 : decode cX4_openOne 77 = .ok (.iload 5, 2) := by decide +kernel
theorem dX4_openOne_79 : decode cX4_openOne 79 = .ok (.iaload, 1) := by decide +kernel
theorem dX4_openOne_80 : decode cX4_openOne 80 = .ok (.ishl, 1) := by decide +kernel
theorem dX4_openOne_81 : decode cX4_openOne 81 = .ok (.ior, 1) := by decide +kernel
theorem dX4_openOne_82 : decode cX4_openOne 82 = .ok (.istore 4, 2) := by decide +kernel
theorem dX4_openOne_84 : decode cX4_openOne 84 = .ok (.iinc 5 1, 3) := by decide +kernel
theorem dX4_openOne_87 : decode cX4_openOne 87 = .ok (.goto (-55), 3) := by decide +kernel
theorem dX4_openOne_90 : decode cX4_openOne 90 = .ok (.iconst 0, 1) := by decide +kernel
theorem dX4_openOne_91 : decode cX4_openOne 91 = .ok (.istore 5, 2) := by decide +kernel
theorem dX4_openOne_93 : decode cX4_openOne 93 = .ok (.iload_n 2, 1) := by decide +kernel
theorem dX4_openOne_94 : decode cX4_openOne 94 = .ok (.ifCond .eq 33, 3) := by decide +kernel
theorem dX4_openOne_97 : decode cX4_openOne 97 = .ok (.iload 5, 2) := by decide +kernel
theorem dX4_openOne_99 : decode cX4_openOne 99 = .ok (.iload_n 3, 1) := by decide +kernel
theorem dX4_openOne_100 : decode cX4_openOne 100 = .ok (.if_icmp .ge 27, 3) := by decide +kernel
theorem dX4_openOne_103 : decode cX4_openOne 103 = .ok (.iload 5, 2) := by decide +kernel
theorem dX4_openOne_105 : decode cX4_openOne 105 = .ok (.bipush 6, 2) := by decide +kernel
theorem dX4_openOne_107 : decode cX4_openOne 107 = .ok (.if_icmp .ge 20, 3) := by decide +kernel
theorem dX4_openOne_110 : decode cX4_openOne 110 = .ok (.aload_n 0, 1) := by decide +kernel
theorem dX4_openOne_111 : decode cX4_openOne 111 = .ok (.aload_n 0, 1) := by decide +kernel
theorem dX4_openOne_112 : decode cX4_openOne 112 = .ok (.getfield 42, 3) := by decide +kernel
theorem dX4_openOne_115 : decode cX4_openOne 115 = .ok (.iload 5, 2) := by decide +kernel
theorem dX4_openOne_117 : decode cX4_openOne 117 = .ok (.iaload, 1) := by decide +kernel
theorem dX4_openOne_118 : decode cX4_openOne 118 = .ok (.invokevirtual 152, 3) := by decide +kernel
theorem dX4_openOne_121 : decode cX4_openOne 121 = .ok (.iinc 5 1, 3) := by decide +kernel
theorem dX4_openOne_124 : decode cX4_openOne 124 = .ok (.goto (-31), 3) := by decide +kernel
theorem dX4_openOne_127 : decode cX4_openOne 127 = .ok (.aload_n 0, 1) := by decide +kernel
theorem dX4_openOne_128 : decode cX4_openOne 128 = .ok (.iload_n 1, 1) := by decide +kernel
theorem dX4_openOne_129 : decode cX4_openOne 129 = .ok (.iload 4, 2) := by decide +kernel
theorem dX4_openOne_131 : decode cX4_openOne 131 = .ok (.invokevirtual 155, 3) := by decide +kernel
theorem dX4_openOne_134 : decode cX4_openOne 134 = .ok (.iload 4, 2) := by decide +kernel
theorem dX4_openOne_136 : decode cX4_openOne 136 = .ok (.invokestatic 99, 3) := by decide +kernel
theorem dX4_openOne_139 : decode cX4_openOne 139 = .ok (.ireturn, 1) := by decide +kernel
def g_X4_openOne : Nat → EA := (t_n 64 (t_n 27 (t_n 15 (t_n 8 (t_n 2 (t_n 1 (t_l 0 (a_aload 1 0)) (t_l 1 (a_iload 1 1))) (t_n 5 (t_l 2 (a_inv true 43 2 (some 4))) (t_l 5 (a_if 10 (fun x => !decide (x = 0)))))) (t_n 10 (t_n 9 (t_l 8 (a_push 1 (.int 0))) (t_l 9 a_iret)) (t_n 11 (t_l 10 (a_aload 1 0)) (t_n 14 (t_l 11 (a_getf 4 5)) (t_l 14 (a_iload 1 1)))))) (t_n 20 (t_n 17 (t_n 16 (t_l 15 a_dup2) (t_l 16 (a_ild 0))) (t_n 18 (t_l 17 (a_push 1 (.int 1))) (t_n 19 (t_l 18 (a_ii 1 (fun x y => x + y))) (t_l 19 (a_ist 0))))) (t_n 22 (t_n 21 (t_l 20 (a_aload 1 0)) (t_l 21 (a_iload 1 1))) (t_n 25 (t_l 22 (a_inv true 65 2 (some 4))) (t_n 26 (t_l 25 (a_istore 6 1 3)) (t_l 26 (a_push 1 (.int 0)))))))) (t_n 45 (t_n 34 (t_n 30 (t_n 29 (t_l 27 (a_istore 6 2 4)) (t_l 29 (a_push 1 (.int 0)))) (t_n 32 (t_l 30 (a_istore 6 2 5)) (t_l 32 (a_iload 2 5)))) (t_n 38 (t_n 35 (t_l 34 (a_iload 1 3)) (t_l 35 (a_ic 90 (fun x y => decide (y ≤ x))))) (t_n 40 (t_l 38 (a_iload 2 5)) (t_n 42 (t_l 40 (a_push 2 (.int 6))) (t_l 42 (a_ic 90 (fun x y => decide (y ≤ x)))))))) (t_n 53 (t_n 47 (t_n 46 (t_l 45 (a_aload 1 0)) (t_l 46 (a_aload 1 0))) (t_n 50 (t_l 47 (a_getf 4 10)) (t_n 52 (t_l 50 (a_iload 2 5)) (t_l 52 (a_ild 0))))) (t_n 59 (t_n 56 (t_l 53 (a_inv true 50 2 (some 4))) (t_l 56 (a_if 84 (fun x => !decide (x = 0))))) (t_n 60 (t_l 59 (a_aload 1 0)) (t_n 61 (t_l 60 (a_aload 1 0)) (t_l 61 (a_getf 4 10)))))))) (t_n 99 (t_n 80 (t_n 72 (t_n 67 (t_n 66 (t_l 64 (a_iload 2 5)) (t_l 66 (a_ild 0))) (t_n 70 (t_l 67 (a_inv true 67 2 (some 4))) (t_l 70 (a_iload 2 4)))) (t_n 74 (t_n 73 (t_l 72 (a_push 1 (.int 1))) (t_l 73 (a_aload 1 0))) (t_n 77 (t_l 74 (a_getf 4 10)) (t_n 79 (t_l 77 (a_iload 2 5)) (t_l 79 (a_ild 0)))))) (t_n 90 (t_n 82 (t_n 81 (t_l 80 (a_ii 1 (fun x y => x <<< (y &&& 31)))) (t_l 81 (a_ii 1 (fun x y => x ||| y)))) (t_n 84 (t_l 82 (a_istore 6 2 4)) (t_n 87 (t_l 84 (a_iinc 6 5 1)) (t_l 87 (a_goto 32))))) (t_n 93 (t_n 91 (t_l 90 (a_push 1 (.int 0))) (t_l 91 (a_istore 6 2 5))) (t_n 94 (t_l 93 (a_iload 1 2)) (t_n 97 (t_l 94 (a_if 127 (fun x => decide (x = 0)))) (t_l 97 (a_iload 2 5))))))) (t_n 118 (t_n 110 (t_n 103 (t_n 100 (t_l 99 (a_iload 1 3)) (t_l 100 (a_ic 127 (fun x y => decide (y ≤ x))))) (t_n 105 (t_l 103 (a_iload 2 5)) (t_n 107 (t_l 105 (a_push 2 (.int 6))) (t_l 107 (a_ic 127 (fun x y => decide (y ≤ x))))))) (t_n 112 (t_n 111 (t_l 110 (a_aload 1 0)) (t_l 111 (a_aload 1 0))) (t_n 115 (t_l 112 (a_getf 4 10)) (t_n 117 (t_l 115 (a_iload 2 5)) (t_l 117 (a_ild 0)))))) (t_n 129 (t_n 124 (t_n 121 (t_l 118 (a_inv true 68 2 (some 4))) (t_l 121 (a_iinc 6 5 1))) (t_n 127 (t_l 124 (a_goto 93)) (t_n 128 (t_l 127 (a_aload 1 0)) (t_l 128 (a_iload 1 1))))) (t_n 134 (t_n 131 (t_l 129 (a_iload 2 4)) (t_l 131 (a_inv true 69 3 (some 4)))) (t_n 136 (t_l 134 (a_iload 2 4)) (t_n 139 (t_l 136 (a_inv true 209 1 none)) (t_l 139 a_iret))))))))
set_option maxRecDepth 100000 in
theorem k_X4_openOne (sc : Nat × (Nat → Int32)) (d : Nat) : ∀ pc, ev_Ok cX4_openOne 6 [] RX4 lw_g lw_n (lw_q sc) vwCl false (ev_CO mt lw_g lw_n (lw_q sc) vwCl d) pc (g_X4_openOne pc) := (ok_t_n (ok_t_n (ok_t_n (ok_t_n (ok_t_n (ok_t_n (ok_t_l (ok_aload_n dX4_openOne_0 rfl)) (ok_t_l (ok_iload_n dX4_openOne_1 rfl))) (ok_t_n (ok_t_l (ok_inv (run_V (y := 43) (n := 1) (ci := 4) dX4_openOne_2 cz_43 gdG cc_43 ci_43 w_696 cm_43 cs_43 cd_43 cl_43 rfl rfl))) (ok_t_l (ok_if_ne dX4_openOne_5 rfl)))) (ok_t_n (ok_t_n (ok_t_l (ok_iconst dX4_openOne_8 rfl)) (ok_t_l (ok_ireturn dX4_openOne_9))) (ok_t_n (ok_t_l (ok_aload_n dX4_openOne_10 rfl)) (ok_t_n (ok_t_l (ok_getfield dX4_openOne_11 (ci := 4) (kf := 5) rfl inGX4 (by decide) w_1057)) (ok_t_l (ok_iload_n dX4_openOne_14 rfl)))))) (ok_t_n (ok_t_n (ok_t_n (ok_t_l (ok_dup2 dX4_openOne_15)) (ok_t_l (ok_iaload dX4_openOne_16))) (ok_t_n (ok_t_l (ok_iconst dX4_openOne_17 rfl)) (ok_t_n (ok_t_l (ok_iadd dX4_openOne_18)) (ok_t_l (ok_iastore dX4_openOne_19))))) (ok_t_n (ok_t_n (ok_t_l (ok_aload_n dX4_openOne_20 rfl)) (ok_t_l (ok_iload_n dX4_openOne_21 rfl))) (ok_t_n (ok_t_l (ok_inv (run_V (y := 65) (n := 1) (ci := 4) dX4_openOne_22 cz_65 gdG cc_65 ci_65 w_697 cm_65 cs_65 cd_65 cl_65 rfl rfl))) (ok_t_n (ok_t_l (ok_istore_n dX4_openOne_25 rfl)) (ok_t_l (ok_iconst dX4_openOne_26 rfl))))))) (ok_t_n (ok_t_n (ok_t_n (ok_t_n (ok_t_l (ok_istore dX4_openOne_27)) (ok_t_l (ok_iconst dX4_openOne_29 rfl))) (ok_t_n (ok_t_l (ok_istore dX4_openOne_30)) (ok_t_l (ok_iload dX4_openOne_32)))) (ok_t_n (ok_t_n (ok_t_l (ok_iload_n dX4_openOne_34 rfl)) (ok_t_l (ok_icmp_ge dX4_openOne_35 rfl))) (ok_t_n (ok_t_l (ok_iload dX4_openOne_38)) (ok_t_n (ok_t_l (ok_bipush dX4_openOne_40 rfl)) (ok_t_l (ok_icmp_ge dX4_openOne_42 rfl)))))) (ok_t_n (ok_t_n (ok_t_n (ok_t_l (ok_aload_n dX4_openOne_45 rfl)) (ok_t_l (ok_aload_n dX4_openOne_46 rfl))) (ok_t_n (ok_t_l (ok_getfield dX4_openOne_47 (ci := 4) (kf := 10) rfl inGX4 (by decide) w_1062)) (ok_t_n (ok_t_l (ok_iload dX4_openOne_50)) (ok_t_l (ok_iaload dX4_openOne_52))))) (ok_t_n (ok_t_n (ok_t_l (ok_inv (run_V (y := 50) (n := 1) (ci := 4) dX4_openOne_53 cz_50 gdG cc_50 ci_50 w_707 cm_50 cs_50 cd_50 cl_50 rfl rfl))) (ok_t_l (ok_if_ne dX4_openOne_56 rfl))) (ok_t_n (ok_t_l (ok_aload_n dX4_openOne_59 rfl)) (ok_t_n (ok_t_l (ok_aload_n dX4_openOne_60 rfl)) (ok_t_l (ok_getfield dX4_openOne_61 (ci := 4) (kf := 10) rfl inGX4 (by decide) w_1062)))))))) (ok_t_n (ok_t_n (ok_t_n (ok_t_n (ok_t_n (ok_t_l (ok_iload dX4_openOne_64)) (ok_t_l (ok_iaload dX4_openOne_66))) (ok_t_n (ok_t_l (ok_inv (run_V (y := 67) (n := 1) (ci := 4) dX4_openOne_67 cz_67 gdG cc_67 ci_67 w_715 cm_67 cs_67 cd_67 cl_67 rfl rfl))) (ok_t_l (ok_iload dX4_openOne_70)))) (ok_t_n (ok_t_n (ok_t_l (ok_iconst dX4_openOne_72 rfl)) (ok_t_l (ok_aload_n dX4_openOne_73 rfl))) (ok_t_n (ok_t_l (ok_getfield dX4_openOne_74 (ci := 4) (kf := 10) rfl inGX4 (by decide) w_1062)) (ok_t_n (ok_t_l (ok_iload dX4_openOne_77)) (ok_t_l (ok_iaload dX4_openOne_79)))))) (ok_t_n (ok_t_n (ok_t_n (ok_t_l (ok_ishl dX4_openOne_80)) (ok_t_l (ok_ior dX4_openOne_81))) (ok_t_n (ok_t_l (ok_istore dX4_openOne_82)) (ok_t_n (ok_t_l (ok_iinc dX4_openOne_84 rfl)) (ok_t_l (ok_goto dX4_openOne_87 rfl))))) (ok_t_n (ok_t_n (ok_t_l (ok_iconst dX4_openOne_90 rfl)) (ok_t_l (ok_istore dX4_openOne_91))) (ok_t_n (ok_t_l (ok_iload_n dX4_openOne_93 rfl)) (ok_t_n (ok_t_l (ok_if_eq dX4_openOne_94 rfl)) (ok_t_l (ok_iload dX4_openOne_97))))))) (ok_t_n (ok_t_n (ok_t_n (ok_t_n (ok_t_l (ok_iload_n dX4_openOne_99 rfl)) (ok_t_l (ok_icmp_ge dX4_openOne_100 rfl))) (ok_t_n (ok_t_l (ok_iload dX4_openOne_103)) (ok_t_n (ok_t_l (ok_bipush dX4_openOne_105 rfl)) (ok_t_l (ok_icmp_ge dX4_openOne_107 rfl))))) (ok_t_n (ok_t_n (ok_t_l (ok_aload_n dX4_openOne_110 rfl)) (ok_t_l (ok_aload_n dX4_openOne_111 rfl))) (ok_t_n (ok_t_l (ok_getfield dX4_openOne_112 (ci := 4) (kf := 10) rfl inGX4 (by decide) w_1062)) (ok_t_n (ok_t_l (ok_iload dX4_openOne_115)) (ok_t_l (ok_iaload dX4_openOne_117)))))) (ok_t_n (ok_t_n (ok_t_n (ok_t_l (ok_inv (run_V (y := 68) (n := 1) (ci := 4) dX4_openOne_118 cz_68 gdG cc_68 ci_68 w_721 cm_68 cs_68 cd_68 cl_68 rfl rfl))) (ok_t_l (ok_iinc dX4_openOne_121 rfl))) (ok_t_n (ok_t_l (ok_goto dX4_openOne_124 rfl)) (ok_t_n (ok_t_l (ok_aload_n dX4_openOne_127 rfl)) (ok_t_l (ok_iload_n dX4_openOne_128 rfl))))) (ok_t_n (ok_t_n (ok_t_l (ok_iload dX4_openOne_129)) (ok_t_l (ok_inv (run_V (y := 69) (n := 2) (ci := 4) dX4_openOne_131 cz_69 gdG cc_69 ci_69 w_732 cm_69 cs_69 cd_69 cl_69 rfl rfl)))) (ok_t_n (ok_t_l (ok_iload dX4_openOne_134)) (ok_t_n (ok_t_l (ok_inv (run_S (y := 209) (n := 1) dX4_openOne_136 cz_209 gdG cc_209 ci_209 w_739 cm_209 cd_209 cl_209))) (ok_t_l (ok_ireturn dX4_openOne_139)))))))))
theorem dX4_load_0 : decode cX4_load 0 = .ok (.bipush 64, 2) := by decide +kernel
theorem dX4_load_2 : decode cX4_load 2 = .ok (.istore_n 2, 1) := by decide +kernel
theorem dX4_load_3 : decode cX4_load 3 = .ok (.iconst 0, 1) := by decide +kernel
theorem dX4_load_4 : decode cX4_load 4 = .ok (.istore_n 3, 1) := by decide +kernel
theorem dX4_load_5 : decode cX4_load 5 = .ok (.iload_n 3, 1) := by decide +kernel
theorem dX4_load_6 : decode cX4_load 6 = .ok (.bipush 6, 2) := by decide +kernel
theorem dX4_load_8 : decode cX4_load 8 = .ok (.if_icmp .ge 35, 3) := by decide +kernel
theorem dX4_load_11 : decode cX4_load 11 = .ok (.aload_n 0, 1) := by decide +kernel
theorem dX4_load_12 : decode cX4_load 12 = .ok (.iload_n 3, 1) := by decide +kernel
theorem dX4_load_13 : decode cX4_load 13 = .ok (.invokevirtual 139, 3) := by decide +kernel
theorem dX4_load_16 : decode cX4_load 16 = .ok (.ifCond .eq 21, 3) := by decide +kernel
theorem dX4_load_19 : decode cX4_load 19 = .ok (.iload_n 2, 1) := by decide +kernel
theorem dX4_load_20 : decode cX4_load 20 = .ok (.aload_n 0, 1) := by decide +kernel
theorem dX4_load_21 : decode cX4_load 21 = .ok (.getfield 30, 3) := by decide +kernel
theorem dX4_load_24 : decode cX4_load 24 = .ok (.iload_n 3, 1) := by decide +kernel
theorem dX4_load_25 : decode cX4_load 25 = .ok (.iaload, 1) := by decide +kernel
theorem dX4_load_26 : decode cX4_load 26 = .ok (.aload_n 0, 1) := by decide +kernel
theorem dX4_load_27 : decode cX4_load 27 = .ok (.getfield 9, 3) := by decide +kernel
theorem dX4_load_30 : decode cX4_load 30 = .ok (.iload_n 3, 1) := by decide +kernel
theorem dX4_load_31 : decode cX4_load 31 = .ok (.iaload, 1) := by decide +kernel
theorem dX4_load_32 : decode cX4_load 32 = .ok (.iadd, 1) := by decide +kernel
theorem dX4_load_33 : decode cX4_load 33 = .ok (.invokestatic 159, 3) := by decide +kernel
theorem dX4_load_36 : decode cX4_load 36 = .ok (.istore_n 2, 1) := by decide +kernel
theorem dX4_load_37 : decode cX4_load 37 = .ok (.iinc 3 1, 3) := by decide +kernel
theorem dX4_load_40 : decode cX4_load 40 = .ok (.goto (-35), 3) := by decide +kernel
theorem dX4_load_43 : decode cX4_load 43 = .ok (.aload_n 0, 1) := by decide +kernel
theorem dX4_load_44 : decode cX4_load 44 = .ok (.iload_n 1, 1) := by decide +kernel
theorem dX4_load_45 : decode cX4_load 45 = .ok (.invokevirtual 61, 3) := by decide +kernel
theorem dX4_load_48 : decode cX4_load 48 = .ok (.ifCond .eq 15, 3) := by decide +kernel
theorem dX4_load_51 : decode cX4_load 51 = .ok (.aload_n 0, 1) := by decide +kernel
theorem dX4_load_52 : decode cX4_load 52 = .ok (.getfield 30, 3) := by decide +kernel
theorem dX4_load_55 : decode cX4_load 55 = .ok (.iload_n 1, 1) := by decide +kernel
theorem dX4_load_56 : decode cX4_load 56 = .ok (.iload_n 2, 1) := by decide +kernel
theorem dX4_load_57 : decode cX4_load 57 = .ok (.bipush 64, 2) := by decide +kernel
theorem dX4_load_59 : decode cX4_load 59 = .ok (.invokestatic 164, 3) := by decide +kernel
theorem dX4_load_62 : decode cX4_load 62 = .ok (.iastore, 1) := by decide +kernel
theorem dX4_load_63 : decode cX4_load 63 = .ok (.return_, 1) := by decide +kernel
def g_X4_load : Nat → EA := (t_n 30 (t_n 13 (t_n 5 (t_n 3 (t_n 2 (t_l 0 (a_push 2 (.int 64))) (t_l 2 (a_istore 4 1 2))) (t_n 4 (t_l 3 (a_push 1 (.int 0))) (t_l 4 (a_istore 4 1 3)))) (t_n 8 (t_n 6 (t_l 5 (a_iload 1 3)) (t_l 6 (a_push 2 (.int 6)))) (t_n 11 (t_l 8 (a_ic 43 (fun x y => decide (y ≤ x)))) (t_n 12 (t_l 11 (a_aload 1 0)) (t_l 12 (a_iload 1 3)))))) (t_n 21 (t_n 19 (t_n 16 (t_l 13 (a_inv true 50 2 (some 4))) (t_l 16 (a_if 37 (fun x => decide (x = 0))))) (t_n 20 (t_l 19 (a_iload 1 2)) (t_l 20 (a_aload 1 0)))) (t_n 25 (t_n 24 (t_l 21 (a_getf 4 6)) (t_l 24 (a_iload 1 3))) (t_n 26 (t_l 25 (a_ild 0)) (t_n 27 (t_l 26 (a_aload 1 0)) (t_l 27 (a_getf 4 0))))))) (t_n 45 (t_n 36 (t_n 32 (t_n 31 (t_l 30 (a_iload 1 3)) (t_l 31 (a_ild 0))) (t_n 33 (t_l 32 (a_ii 1 (fun x y => x + y))) (t_l 33 (a_inv true 211 2 none)))) (t_n 40 (t_n 37 (t_l 36 (a_istore 4 1 2)) (t_l 37 (a_iinc 4 3 1))) (t_n 43 (t_l 40 (a_goto 5)) (t_n 44 (t_l 43 (a_aload 1 0)) (t_l 44 (a_iload 1 1)))))) (t_n 56 (t_n 51 (t_n 48 (t_l 45 (a_inv true 43 2 (some 4))) (t_l 48 (a_if 63 (fun x => decide (x = 0))))) (t_n 52 (t_l 51 (a_aload 1 0)) (t_n 55 (t_l 52 (a_getf 4 6)) (t_l 55 (a_iload 1 1))))) (t_n 59 (t_n 57 (t_l 56 (a_iload 1 2)) (t_l 57 (a_push 2 (.int 64)))) (t_n 62 (t_l 59 (a_inv false 197 2 none)) (t_n 63 (t_l 62 (a_ist 0)) (t_l 63 a_vret)))))))
set_option maxRecDepth 100000 in
theorem k_X4_load (sc : Nat × (Nat → Int32)) (d : Nat) : ∀ pc, ev_Ok cX4_load 4 [] RX4 lw_g lw_n (lw_q sc) vwCl false (ev_CO mt lw_g lw_n (lw_q sc) vwCl d) pc (g_X4_load pc) := (ok_t_n (ok_t_n (ok_t_n (ok_t_n (ok_t_n (ok_t_l (ok_bipush dX4_load_0 rfl)) (ok_t_l (ok_istore_n dX4_load_2 rfl))) (ok_t_n (ok_t_l (ok_iconst dX4_load_3 rfl)) (ok_t_l (ok_istore_n dX4_load_4 rfl)))) (ok_t_n (ok_t_n (ok_t_l (ok_iload_n dX4_load_5 rfl)) (ok_t_l (ok_bipush dX4_load_6 rfl))) (ok_t_n (ok_t_l (ok_icmp_ge dX4_load_8 rfl)) (ok_t_n (ok_t_l (ok_aload_n dX4_load_11 rfl)) (ok_t_l (ok_iload_n dX4_load_12 rfl)))))) (ok_t_n (ok_t_n (ok_t_n (ok_t_l (ok_inv (run_V (y := 50) (n := 1) (ci := 4) dX4_load_13 cz_50 gdG cc_50 ci_50 w_707 cm_50 cs_50 cd_50 cl_50 rfl rfl))) (ok_t_l (ok_if_eq dX4_load_16 rfl))) (ok_t_n (ok_t_l (ok_iload_n dX4_load_19 rfl)) (ok_t_l (ok_aload_n dX4_load_20 rfl)))) (ok_t_n (ok_t_n (ok_t_l (ok_getfield dX4_load_21 (ci := 4) (kf := 6) rfl inGX4 (by decide) w_1058)) (ok_t_l (ok_iload_n dX4_load_24 rfl))) (ok_t_n (ok_t_l (ok_iaload dX4_load_25)) (ok_t_n (ok_t_l (ok_aload_n dX4_load_26 rfl)) (ok_t_l (ok_getfield dX4_load_27 (ci := 4) (kf := 0) rfl inGX4 (by decide) w_1052))))))) (ok_t_n (ok_t_n (ok_t_n (ok_t_n (ok_t_l (ok_iload_n dX4_load_30 rfl)) (ok_t_l (ok_iaload dX4_load_31))) (ok_t_n (ok_t_l (ok_iadd dX4_load_32)) (ok_t_l (ok_inv (run_S (y := 211) (n := 2) dX4_load_33 cz_211 gdG cc_211 ci_211 w_719 cm_211 cd_211 cl_211))))) (ok_t_n (ok_t_n (ok_t_l (ok_istore_n dX4_load_36 rfl)) (ok_t_l (ok_iinc dX4_load_37 rfl))) (ok_t_n (ok_t_l (ok_goto dX4_load_40 rfl)) (ok_t_n (ok_t_l (ok_aload_n dX4_load_43 rfl)) (ok_t_l (ok_iload_n dX4_load_44 rfl)))))) (ok_t_n (ok_t_n (ok_t_n (ok_t_l (ok_inv (run_V (y := 43) (n := 1) (ci := 4) dX4_load_45 cz_43 gdG cc_43 ci_43 w_696 cm_43 cs_43 cd_43 cl_43 rfl rfl))) (ok_t_l (ok_if_eq dX4_load_48 rfl))) (ok_t_n (ok_t_l (ok_aload_n dX4_load_51 rfl)) (ok_t_n (ok_t_l (ok_getfield dX4_load_52 (ci := 4) (kf := 6) rfl inGX4 (by decide) w_1058)) (ok_t_l (ok_iload_n dX4_load_55 rfl))))) (ok_t_n (ok_t_n (ok_t_l (ok_iload_n dX4_load_56 rfl)) (ok_t_l (ok_bipush dX4_load_57 rfl))) (ok_t_n (ok_t_l (ok_inv (run_SN (y := 197) (n := 2) dX4_load_59 cz_197 gdG cc_197 ci_197 nst_14 cm_197 cd_197 cl_197))) (ok_t_n (ok_t_l (ok_iastore dX4_load_62)) (ok_t_l (ok_vreturn dX4_load_63))))))))
theorem dX4_makeGlobal_0 : decode cX4_makeGlobal 0 = .ok (.aload_n 0, 1) := by decide +kernel
theorem dX4_makeGlobal_1 : decode cX4_makeGlobal 1 = .ok (.iload_n 1, 1) := by decide +kernel
theorem dX4_makeGlobal_2 : decode cX4_makeGlobal 2 = .ok (.invokevirtual 167, 3) := by decide +kernel
theorem dX4_makeGlobal_5 : decode cX4_makeGlobal 5 = .ok (.iconst (-1), 1) := by decide +kernel
theorem dX4_makeGlobal_6 : decode cX4_makeGlobal 6 = .ok (.if_icmp .ne 32, 3) := by decide +kernel
theorem dX4_makeGlobal_9 : decode cX4_makeGlobal 9 = .ok (.aload_n 0, 1) := by decide +kernel
theorem dX4_makeGlobal_10 : decode cX4_makeGlobal 10 = .ok (.getfield 55, 3) := by decide +kernel
theorem dX4_makeGlobal_13 : decode cX4_makeGlobal 13 = .ok (.bipush 6, 2) := by decide +kernel
theorem dX4_makeGlobal_15 : decode cX4_makeGlobal 15 = .ok (.if_icmp .ge 23, 3) := by decide +kernel
theorem dX4_makeGlobal_18 : decode cX4_makeGlobal 18 = .ok (.aload_n 0, 1) := by decide +kernel
theorem dX4_makeGlobal_19 : decode cX4_makeGlobal 19 = .ok (.getfield 36, 3) := by decide +kernel
theorem dX4_makeGlobal_22 : decode cX4_makeGlobal 22 = .ok (.aload_n 0, 1) := by decide +kernel
theorem dX4_makeGlobal_23 : decode cX4_makeGlobal 23 = .ok (.getfield 55, 3) := by decide +kernel
theorem dX4_makeGlobal_26 : decode cX4_makeGlobal 26 = .ok (.iload_n 1, 1) := by decide +kernel
theorem dX4_makeGlobal_27 : decode cX4_makeGlobal 27 = .ok (.iastore, 1) := by decide +kernel
theorem dX4_makeGlobal_28 : decode cX4_makeGlobal 28 = .ok (.aload_n 0, 1) := by decide +kernel
theorem dX4_makeGlobal_29 : decode cX4_makeGlobal 29 = .ok (.dup, 1) := by decide +kernel
theorem dX4_makeGlobal_30 : decode cX4_makeGlobal 30 = .ok (.getfield 55, 3) := by decide +kernel
theorem dX4_makeGlobal_33 : decode cX4_makeGlobal 33 = .ok (.iconst 1, 1) := by decide +kernel
theorem dX4_makeGlobal_34 : decode cX4_makeGlobal 34 = .ok (.iadd, 1) := by decide +kernel
theorem dX4_makeGlobal_35 : decode cX4_makeGlobal 35 = .ok (.putfield 55, 3) := by decide +kernel
theorem dX4_makeGlobal_38 : decode cX4_makeGlobal 38 = .ok (.return_, 1) := by decide +kernel
def g_X4_makeGlobal : Nat → EA := (t_n 22 (t_n 9 (t_n 2 (t_n 1 (t_l 0 (a_aload 1 0)) (t_l 1 (a_iload 1 1))) (t_n 5 (t_l 2 (a_inv true 56 2 (some 4))) (t_n 6 (t_l 5 (a_push 1 (.int (-1)))) (t_l 6 (a_ic 38 (fun x y => !decide (x = y))))))) (t_n 15 (t_n 10 (t_l 9 (a_aload 1 0)) (t_n 13 (t_l 10 (a_getf 4 14)) (t_l 13 (a_push 2 (.int 6))))) (t_n 18 (t_l 15 (a_ic 38 (fun x y => decide (y ≤ x)))) (t_n 19 (t_l 18 (a_aload 1 0)) (t_l 19 (a_getf 4 8)))))) (t_n 29 (t_n 26 (t_n 23 (t_l 22 (a_aload 1 0)) (t_l 23 (a_getf 4 14))) (t_n 27 (t_l 26 (a_iload 1 1)) (t_n 28 (t_l 27 (a_ist 0)) (t_l 28 (a_aload 1 0))))) (t_n 34 (t_n 30 (t_l 29 a_dup) (t_n 33 (t_l 30 (a_getf 4 14)) (t_l 33 (a_push 1 (.int 1))))) (t_n 35 (t_l 34 (a_ii 1 (fun x y => x + y))) (t_n 38 (t_l 35 (a_putf 0 4 14)) (t_l 38 a_vret))))))
set_option maxRecDepth 100000 in
theorem k_X4_makeGlobal (sc : Nat × (Nat → Int32)) (d : Nat) : ∀ pc, ev_Ok cX4_makeGlobal 2 [] RX4 lw_g lw_n (lw_q sc) vwCl false (ev_CO mt lw_g lw_n (lw_q sc) vwCl d) pc (g_X4_makeGlobal pc) := (ok_t_n (ok_t_n (ok_t_n (ok_t_n (ok_t_l (ok_aload_n dX4_makeGlobal_0 rfl)) (ok_t_l (ok_iload_n dX4_makeGlobal_1 rfl))) (ok_t_n (ok_t_l (ok_inv (run_V (y := 56) (n := 1) (ci := 4) dX4_makeGlobal_2 cz_56 gdG cc_56 ci_56 w_725 cm_56 cs_56 cd_56 cl_56 rfl rfl))) (ok_t_n (ok_t_l (ok_iconst dX4_makeGlobal_5 rfl)) (ok_t_l (ok_icmp_ne dX4_makeGlobal_6 rfl))))) (ok_t_n (ok_t_n (ok_t_l (ok_aload_n dX4_makeGlobal_9 rfl)) (ok_t_n (ok_t_l (ok_getfield dX4_makeGlobal_10 (ci := 4) (kf := 14) rfl inGX4 (by decide) w_1066)) (ok_t_l (ok_bipush dX4_makeGlobal_13 rfl)))) (ok_t_n (ok_t_l (ok_icmp_ge dX4_makeGlobal_15 rfl)) (ok_t_n (ok_t_l (ok_aload_n dX4_makeGlobal_18 rfl)) (ok_t_l (ok_getfield dX4_makeGlobal_19 (ci := 4) (kf := 8) rfl inGX4 (by decide) w_1060)))))) (ok_t_n (ok_t_n (ok_t_n (ok_t_l (ok_aload_n dX4_makeGlobal_22 rfl)) (ok_t_l (ok_getfield dX4_makeGlobal_23 (ci := 4) (kf := 14) rfl inGX4 (by decide) w_1066))) (ok_t_n (ok_t_l (ok_iload_n dX4_makeGlobal_26 rfl)) (ok_t_n (ok_t_l (ok_iastore dX4_makeGlobal_27)) (ok_t_l (ok_aload_n dX4_makeGlobal_28 rfl))))) (ok_t_n (ok_t_n (ok_t_l (ok_dup dX4_makeGlobal_29)) (ok_t_n (ok_t_l (ok_getfield dX4_makeGlobal_30 (ci := 4) (kf := 14) rfl inGX4 (by decide) w_1066)) (ok_t_l (ok_iconst dX4_makeGlobal_33 rfl)))) (ok_t_n (ok_t_l (ok_iadd dX4_makeGlobal_34)) (ok_t_n (ok_t_l (ok_putfield dX4_makeGlobal_35 (ci := 4) (kf := 14) rfl inGX4 (by decide) tyX4_ok nmX4 rfl w_1066 rfl)) (ok_t_l (ok_vreturn dX4_makeGlobal_38)))))))
theorem dX4_initialise_0 : decode cX4_initialise 0 = .ok (.aload_n 0, 1) := by decide +kernel
theorem dX4_initialise_1 : decode cX4_initialise 1 = .ok (.getfield 45, 3) := by decide +kernel
theorem dX4_initialise_4 : decode cX4_initialise 4 = .ok (.iconst 0, 1) := by decide +kernel
theorem dX4_initialise_5 : decode cX4_initialise 5 = .ok (.iload_n 1, 1) := by decide +kernel
theorem dX4_initialise_6 : decode cX4_initialise 6 = .ok (.iastore, 1) := by decide +kernel
theorem dX4_initialise_7 : decode cX4_initialise 7 = .ok (.iconst 1, 1) := by decide +kernel
theorem dX4_initialise_8 : decode cX4_initialise 8 = .ok (.istore_n 3, 1) := by decide +kernel
theorem dX4_initialise_9 : decode cX4_initialise 9 = .ok (.iconst 1, 1) := by decide +kernel
theorem dX4_initialise_10 : decode cX4_initialise 10 = .ok (.iload_n 1, 1) := by decide +kernel
theorem dX4_initialise_11 : decode cX4_initialise 11 = .ok (.ishl, 1) := by decide +kernel
theorem dX4_initialise_12 : decode cX4_initialise 12 = .ok (.istore 4, 2) := by decide +kernel
theorem dX4_initialise_14 : decode cX4_initialise 14 = .ok (.iconst 0, 1) := by decide +kernel
theorem dX4_initialise_15 : decode cX4_initialise 15 = .ok (.istore 5, 2) := by decide +kernel
theorem dX4_initialise_17 : decode cX4_initialise 17 = .ok (.iload 5, 2) := by decide +kernel
theorem dX4_initialise_19 : decode cX4_initialise 19 = .ok (.bipush 12, 2) := by decide +kernel
theorem dX4_initialise_21 : decode cX4_initialise 21 = .ok (.if_icmp .ge 122, 3) := by decide +kernel
theorem dX4_initialise_24 : decode cX4_initialise 24 = .ok (.iload_n 3, 1) := by decide +kernel
theorem dX4_initialise_25 : decode cX4_initialise 25 = .ok (.ifCond .le 118, 3) := by decide +kernel
theorem dX4_initialise_28 : decode cX4_initialise 28 = .ok (.iload_n 3, 1) := by decide +kernel
theorem dX4_initialise_29 : decode cX4_initialise 29 = .ok (.bipush 6, 2) := by decide +kernel
theorem dX4_initialise_31 : decode cX4_initialise 31 = .ok (.if_icmp .gt 112, 3) := by decide +kernel
theorem dX4_initialise_34 : decode cX4_initialise 34 = .ok (.aload_n 0, 1) := by decide +kernel
theorem dX4_initialise_35 : decode cX4_initialise 35 = .ok (.getfield 45, 3) := by decide +kernel
theorem dX4_initialise_38 : decode cX4_initialise 38 = .ok (.iload_n 3, 1) := by decide +kernel
theorem dX4_initialise_39 : decode cX4_initialise 39 = .ok (.iconst 1, 1) := by decide +kernel
theorem dX4_initialise_40 : decode cX4_initialise 40 = .ok (.isub, 1) := by decide +kernel
theorem dX4_initialise_41 : decode cX4_initialise 41 = .ok (.iaload, 1) := by decide +kernel
theorem dX4_initialise_42 : decode cX4_initialise 42 = .ok (.istore 6, 2) := by decide +kernel
theorem dX4_initialise_44 : decode cX4_initialise 44 = .ok (.aload_n 0, 1) := by decide +kernel
theorem dX4_initialise_45 : decode cX4_initialise 45 = .ok (.iload 6, 2) := by decide +kernel
theorem dX4_initialise_47 : decode cX4_initialise 47 = .ok (.invokevirtual 142, 3) := by decide +kernel
theorem dX4_initialise_50 : decode cX4_initialise 50 = .ok (.iload 4, 2) := by decide +kernel
theorem dX4_initialise_52 : decode cX4_initialise 52 = .ok (.iconst (-1), 1) := by decide +kernel
theorem dX4_initialise_53 : decode cX4_initialise 53 = .ok (.ixor, 1) := by decide +kernel
theorem dX4_initialise_54 : decode cX4_initialise 54 = .ok (.iand, 1) := by decide +kernel
theorem dX4_initialise_55 : decode cX4_initialise 55 = .ok (.invokestatic 170, 3) := by decide +kernel
theorem dX4_initialise_58 : decode cX4_initialise 58 = .ok (.istore 7, 2) := by decide +kernel
theorem dX4_initialise_60 : decode cX4_initialise 60 = .ok (.iload 7, 2) := by decide +kernel
theorem dX4_initialise_62 : decode cX4_initialise 62 = .ok (.iconst (-1), 1) := by decide +kernel
theorem dX4_initialise_63 : decode cX4_initialise 63 = .ok (.if_icmp .eq 32, 3) := by decide +kernel
theorem dX4_initialise_66 : decode cX4_initialise 66 = .ok (.iload_n 3, 1) := by decide +kernel
theorem dX4_initialise_67 : decode cX4_initialise 67 = .ok (.bipush 6, 2) := by decide +kernel
theorem dX4_initialise_69 : decode cX4_initialise 69 = .ok (.if_icmp .ge 26, 3) := by decide +kernel
theorem dX4_initialise_72 : decode cX4_initialise 72 = .ok (.aload_n 0, 1) := by decide +kernel
theorem dX4_initialise_73 : decode cX4_initialise 73 = .ok (.getfield 45, 3) := by decide +kernel
theorem dX4_initialise_76 : decode cX4_initialise 76 = .ok (.iload_n 3, 1) := by decide +kernel
theorem dX4_initialise_77 : decode cX4_initialise 77 = .ok (.iload 7, 2) := by decide +kernel
theorem dX4_initialise_79 : decode cX4_initialise 79 = .ok (.iastore, 1) := by decide +kernel
theorem dX4_initialise_80 : decode cX4_initialise 80 = .ok (.iinc 3 1, 3) := by decide +kernel
theorem dX4_initialise_83 : decode cX4_initialise 83 = .ok (.iload 4, 2) := by decide +kernel
theorem dX4_initialise_85 : decode cX4_initialise 85 = .ok (.iconst 1, 1) := by decide +kernel
theorem dX4_initialise_86 : decode cX4_initialise 86 = .ok (.iload 7, 2) := by decide +kernel
theorem dX4_initialise_88 : decode cX4_initialise 88 = .ok (.ishl, 1) := by decide +kernel
theorem dX4_initialise_89 : decode cX4_initialise 89 = .ok (.ior, 1) := by decide +kernel
theorem dX4_initialise_90 : decode cX4_initialise 90 = .ok (.istore 4, 2) := by decide +kernel
theorem dX4_initialise_92 : decode cX4_initialise 92 = .ok (.goto 45, 3) := by decide +kernel
theorem dX4_initialise_95 : decode cX4_initialise 95 = .ok (.iinc 3 (-1), 3) := by decide +kernel
theorem dX4_initialise_98 : decode cX4_initialise 98 = .ok (.iload_n 2, 1) := by decide +kernel
theorem dX4_initialise_99 : decode cX4_initialise 99 = .ok (.iload 6, 2) := by decide +kernel
theorem dX4_initialise_101 : decode cX4_initialise 101 = .ok (.invokestatic 75, 3) := by decide +kernel
theorem dX4_initialise_104 : decode cX4_initialise 104 = .ok (.ifCond .eq 33, 3) := by decide +kernel
theorem dX4_initialise_107 : decode cX4_initialise 107 = .ok (.aload_n 0, 1) := by decide +kernel
theorem dX4_initialise_108 : decode cX4_initialise 108 = .ok (.getfield 58, 3) := by decide +kernel
theorem dX4_initialise_111 : decode cX4_initialise 111 = .ok (.bipush 6, 2) := by decide +kernel
theorem dX4_initialise_113 : decode cX4_initialise 113 = .ok (.if_icmp .ge 24, 3) := by decide +kernel
theorem dX4_initialise_116 : decode cX4_initialise 116 = .ok (.aload_n 0, 1) := by decide +kernel
theorem dX4_initialise_117 : decode cX4_initialise 117 = .ok (.getfield 39, 3) := by decide +kernel
theorem dX4_initialise_120 : decode cX4_initialise 120 = .ok (.aload_n 0, 1) := by decide +kernel
theorem dX4_initialise_121 : decode cX4_initialise 121 = .ok (.getfield 58, 3) := by decide +kernel
theorem dX4_initialise_124 : decode cX4_initialise 124 = .ok (.iload 6, 2) := by decide +kernel
theorem dX4_initialise_126 : decode cX4_initialise 126 = .ok (.iastore, 1) := by decide +kernel
theorem dX4_initialise_127 : decode cX4_initialise 127 = .ok (.aload_n 0, 1) := by decide +kernel
theorem dX4_initialise_128 : decode cX4_initialise 128 = .ok (.dup, 1) := by decide +kernel
theorem dX4_initialise_129 : decode cX4_initialise 129 = .ok (.getfield 58, 3) := by decide +kernel
theorem dX4_initialise_132 : decode cX4_initialise 132 = .ok (.iconst 1, 1) := by decide +kernel
theorem dX4_initialise_133 : decode cX4_initialise 133 = .ok (.iadd, 1) := by decide +kernel
theorem dX4_initialise_134 : decode cX4_initialise 134 = .ok (.putfield 58, 3) := by decide +kernel
theorem dX4_initialise_137 : decode cX4_initialise 137 = .ok (.iinc 5 1, 3) := by decide +kernel
theorem dX4_initialise_140 : decode cX4_initialise 140 = .ok (.goto (-123), 3) := by decide +kernel
theorem dX4_initialise_143 : decode cX4_initialise 143 = .ok (.return_, 1) := by decide +kernel
def g_X4_initialise : Nat → EA := (t_n 66 (t_n 31 (t_n 12 (t_n 7 (t_n 4 (t_n 1 (t_l 0 (a_aload 1 0)) (t_l 1 (a_getf 4 11))) (t_n 5 (t_l 4 (a_push 1 (.int 0))) (t_n 6 (t_l 5 (a_iload 1 1)) (t_l 6 (a_ist 0))))) (t_n 9 (t_n 8 (t_l 7 (a_push 1 (.int 1))) (t_l 8 (a_istore 8 1 3))) (t_n 10 (t_l 9 (a_push 1 (.int 1))) (t_n 11 (t_l 10 (a_iload 1 1)) (t_l 11 (a_ii 1 (fun x y => x <<< (y &&& 31)))))))) (t_n 21 (t_n 15 (t_n 14 (t_l 12 (a_istore 8 2 4)) (t_l 14 (a_push 1 (.int 0)))) (t_n 17 (t_l 15 (a_istore 8 2 5)) (t_n 19 (t_l 17 (a_iload 2 5)) (t_l 19 (a_push 2 (.int 12)))))) (t_n 25 (t_n 24 (t_l 21 (a_ic 143 (fun x y => decide (y ≤ x)))) (t_l 24 (a_iload 1 3))) (t_n 28 (t_l 25 (a_if 143 (fun x => decide (x ≤ 0)))) (t_n 29 (t_l 28 (a_iload 1 3)) (t_l 29 (a_push 2 (.int 6)))))))) (t_n 47 (t_n 40 (t_n 35 (t_n 34 (t_l 31 (a_ic 143 (fun x y => decide (y < x)))) (t_l 34 (a_aload 1 0))) (t_n 38 (t_l 35 (a_getf 4 11)) (t_n 39 (t_l 38 (a_iload 1 3)) (t_l 39 (a_push 1 (.int 1)))))) (t_n 42 (t_n 41 (t_l 40 (a_ii 1 (fun x y => x - y))) (t_l 41 (a_ild 0))) (t_n 44 (t_l 42 (a_istore 8 2 6)) (t_n 45 (t_l 44 (a_aload 1 0)) (t_l 45 (a_iload 2 6)))))) (t_n 55 (t_n 52 (t_n 50 (t_l 47 (a_inv true 63 2 (some 4))) (t_l 50 (a_iload 2 4))) (t_n 53 (t_l 52 (a_push 1 (.int (-1)))) (t_n 54 (t_l 53 (a_ii 1 (fun x y => x ^^^ y))) (t_l 54 (a_ii 1 (fun x y => x &&& y)))))) (t_n 60 (t_n 58 (t_l 55 (a_inv true 70 1 none)) (t_l 58 (a_istore 8 2 7))) (t_n 62 (t_l 60 (a_iload 2 7)) (t_n 63 (t_l 62 (a_push 1 (.int (-1)))) (t_l 63 (a_ic 95 (fun x y => decide (x = y)))))))))) (t_n 104 (t_n 85 (t_n 76 (t_n 69 (t_n 67 (t_l 66 (a_iload 1 3)) (t_l 67 (a_push 2 (.int 6)))) (t_n 72 (t_l 69 (a_ic 95 (fun x y => decide (y ≤ x)))) (t_n 73 (t_l 72 (a_aload 1 0)) (t_l 73 (a_getf 4 11))))) (t_n 79 (t_n 77 (t_l 76 (a_iload 1 3)) (t_l 77 (a_iload 2 7))) (t_n 80 (t_l 79 (a_ist 0)) (t_n 83 (t_l 80 (a_iinc 8 3 1)) (t_l 83 (a_iload 2 4)))))) (t_n 92 (t_n 88 (t_n 86 (t_l 85 (a_push 1 (.int 1))) (t_l 86 (a_iload 2 7))) (t_n 89 (t_l 88 (a_ii 1 (fun x y => x <<< (y &&& 31)))) (t_n 90 (t_l 89 (a_ii 1 (fun x y => x ||| y))) (t_l 90 (a_istore 8 2 4))))) (t_n 98 (t_n 95 (t_l 92 (a_goto 137)) (t_l 95 (a_iinc 8 3 (-1)))) (t_n 99 (t_l 98 (a_iload 1 2)) (t_n 101 (t_l 99 (a_iload 2 6)) (t_l 101 (a_inv false 196 2 none))))))) (t_n 126 (t_n 116 (t_n 108 (t_n 107 (t_l 104 (a_if 137 (fun x => decide (x = 0)))) (t_l 107 (a_aload 1 0))) (t_n 111 (t_l 108 (a_getf 4 15)) (t_n 113 (t_l 111 (a_push 2 (.int 6))) (t_l 113 (a_ic 137 (fun x y => decide (y ≤ x))))))) (t_n 120 (t_n 117 (t_l 116 (a_aload 1 0)) (t_l 117 (a_getf 4 9))) (t_n 121 (t_l 120 (a_aload 1 0)) (t_n 124 (t_l 121 (a_getf 4 15)) (t_l 124 (a_iload 2 6)))))) (t_n 133 (t_n 128 (t_n 127 (t_l 126 (a_ist 0)) (t_l 127 (a_aload 1 0))) (t_n 129 (t_l 128 a_dup) (t_n 132 (t_l 129 (a_getf 4 15)) (t_l 132 (a_push 1 (.int 1)))))) (t_n 137 (t_n 134 (t_l 133 (a_ii 1 (fun x y => x + y))) (t_l 134 (a_putf 0 4 15))) (t_n 140 (t_l 137 (a_iinc 8 5 1)) (t_n 143 (t_l 140 (a_goto 17)) (t_l 143 a_vret))))))))
set_option maxRecDepth 100000 in
theorem k_X4_initialise (sc : Nat × (Nat → Int32)) (d : Nat) : ∀ pc, ev_Ok cX4_initialise 8 [] RX4 lw_g lw_n (lw_q sc) vwCl false (ev_CO mt lw_g lw_n (lw_q sc) vwCl d) pc (g_X4_initialise pc) := (ok_t_n (ok_t_n (ok_t_n (ok_t_n (ok_t_n (ok_t_n (ok_t_l (ok_aload_n dX4_initialise_0 rfl)) (ok_t_l (ok_getfield dX4_initialise_1 (ci := 4) (kf := 11) rfl inGX4 (by decide) w_1063))) (ok_t_n (ok_t_l (ok_iconst dX4_initialise_4 rfl)) (ok_t_n (ok_t_l (ok_iload_n dX4_initialise_5 rfl)) (ok_t_l (ok_iastore dX4_initialise_6))))) (ok_t_n (ok_t_n (ok_t_l (ok_iconst dX4_initialise_7 rfl)) (ok_t_l (ok_istore_n dX4_initialise_8 rfl))) (ok_t_n (ok_t_l (ok_iconst dX4_initialise_9 rfl)) (ok_t_n (ok_t_l (ok_iload_n dX4_initialise_10 rfl)) (ok_t_l (ok_ishl dX4_initialise_11)))))) (ok_t_n (ok_t_n (ok_t_n (ok_t_l (ok_istore dX4_initialise_12)) (ok_t_l (ok_iconst dX4_initialise_14 rfl))) (ok_t_n (ok_t_l (ok_istore dX4_initialise_15)) (ok_t_n (ok_t_l (ok_iload dX4_initialise_17)) (ok_t_l (ok_bipush dX4_initialise_19 rfl))))) (ok_t_n (ok_t_n (ok_t_l (ok_icmp_ge dX4_initialise_21 rfl)) (ok_t_l (ok_iload_n dX4_initialise_24 rfl))) (ok_t_n (ok_t_l (ok_if_le dX4_initialise_25 rfl)) (ok_t_n (ok_t_l (ok_iload_n dX4_initialise_28 rfl)) (ok_t_l (ok_bipush dX4_initialise_29 rfl))))))) (ok_t_n (ok_t_n (ok_t_n (ok_t_n (ok_t_l (ok_icmp_gt dX4_initialise_31 rfl)) (ok_t_l (ok_aload_n dX4_initialise_34 rfl))) (ok_t_n (ok_t_l (ok_getfield dX4_initialise_35 (ci := 4) (kf := 11) rfl inGX4 (by decide) w_1063)) (ok_t_n (ok_t_l (ok_iload_n dX4_initialise_38 rfl)) (ok_t_l (ok_iconst dX4_initialise_39 rfl))))) (ok_t_n (ok_t_n (ok_t_l (ok_isub dX4_initialise_40)) (ok_t_l (ok_iaload dX4_initialise_41))) (ok_t_n (ok_t_l (ok_istore dX4_initialise_42)) (ok_t_n (ok_t_l (ok_aload_n dX4_initialise_44 rfl)) (ok_t_l (ok_iload dX4_initialise_45)))))) (ok_t_n (ok_t_n (ok_t_n (ok_t_l (ok_inv (run_V (y := 63) (n := 1) (ci := 4) dX4_initialise_47 cz_63 gdG cc_63 ci_63 w_702 cm_63 cs_63 cd_63 cl_63 rfl rfl))) (ok_t_l (ok_iload dX4_initialise_50))) (ok_t_n (ok_t_l (ok_iconst dX4_initialise_52 rfl)) (ok_t_n (ok_t_l (ok_ixor dX4_initialise_53)) (ok_t_l (ok_iand dX4_initialise_54))))) (ok_t_n (ok_t_n (ok_t_l (ok_inv (run_S (y := 70) (n := 1) dX4_initialise_55 cz_70 gdG cc_70 ci_70 w_736 cm_70 cd_70 cl_70))) (ok_t_l (ok_istore dX4_initialise_58))) (ok_t_n (ok_t_l (ok_iload dX4_initialise_60)) (ok_t_n (ok_t_l (ok_iconst dX4_initialise_62 rfl)) (ok_t_l (ok_icmp_eq dX4_initialise_63 rfl)))))))) (ok_t_n (ok_t_n (ok_t_n (ok_t_n (ok_t_n (ok_t_l (ok_iload_n dX4_initialise_66 rfl)) (ok_t_l (ok_bipush dX4_initialise_67 rfl))) (ok_t_n (ok_t_l (ok_icmp_ge dX4_initialise_69 rfl)) (ok_t_n (ok_t_l (ok_aload_n dX4_initialise_72 rfl)) (ok_t_l (ok_getfield dX4_initialise_73 (ci := 4) (kf := 11) rfl inGX4 (by decide) w_1063))))) (ok_t_n (ok_t_n (ok_t_l (ok_iload_n dX4_initialise_76 rfl)) (ok_t_l (ok_iload dX4_initialise_77))) (ok_t_n (ok_t_l (ok_iastore dX4_initialise_79)) (ok_t_n (ok_t_l (ok_iinc dX4_initialise_80 rfl)) (ok_t_l (ok_iload dX4_initialise_83)))))) (ok_t_n (ok_t_n (ok_t_n (ok_t_l (ok_iconst dX4_initialise_85 rfl)) (ok_t_l (ok_iload dX4_initialise_86))) (ok_t_n (ok_t_l (ok_ishl dX4_initialise_88)) (ok_t_n (ok_t_l (ok_ior dX4_initialise_89)) (ok_t_l (ok_istore dX4_initialise_90))))) (ok_t_n (ok_t_n (ok_t_l (ok_goto dX4_initialise_92 rfl)) (ok_t_l (ok_iinc dX4_initialise_95 rfl))) (ok_t_n (ok_t_l (ok_iload_n dX4_initialise_98 rfl)) (ok_t_n (ok_t_l (ok_iload dX4_initialise_99)) (ok_t_l (ok_inv (run_SN (y := 196) (n := 2) dX4_initialise_101 cz_196 gdG cc_196 ci_196 nst_13 cm_196 cd_196 cl_196)))))))) (ok_t_n (ok_t_n (ok_t_n (ok_t_n (ok_t_l (ok_if_eq dX4_initialise_104 rfl)) (ok_t_l (ok_aload_n dX4_initialise_107 rfl))) (ok_t_n (ok_t_l (ok_getfield dX4_initialise_108 (ci := 4) (kf := 15) rfl inGX4 (by decide) w_1067)) (ok_t_n (ok_t_l (ok_bipush dX4_initialise_111 rfl)) (ok_t_l (ok_icmp_ge dX4_initialise_113 rfl))))) (ok_t_n (ok_t_n (ok_t_l (ok_aload_n dX4_initialise_116 rfl)) (ok_t_l (ok_getfield dX4_initialise_117 (ci := 4) (kf := 9) rfl inGX4 (by decide) w_1061))) (ok_t_n (ok_t_l (ok_aload_n dX4_initialise_120 rfl)) (ok_t_n (ok_t_l (ok_getfield dX4_initialise_121 (ci := 4) (kf := 15) rfl inGX4 (by decide) w_1067)) (ok_t_l (ok_iload dX4_initialise_124)))))) (ok_t_n (ok_t_n (ok_t_n (ok_t_l (ok_iastore dX4_initialise_126)) (ok_t_l (ok_aload_n dX4_initialise_127 rfl))) (ok_t_n (ok_t_l (ok_dup dX4_initialise_128)) (ok_t_n (ok_t_l (ok_getfield dX4_initialise_129 (ci := 4) (kf := 15) rfl inGX4 (by decide) w_1067)) (ok_t_l (ok_iconst dX4_initialise_132 rfl))))) (ok_t_n (ok_t_n (ok_t_l (ok_iadd dX4_initialise_133)) (ok_t_l (ok_putfield dX4_initialise_134 (ci := 4) (kf := 15) rfl inGX4 (by decide) tyX4_ok nmX4 rfl w_1067 rfl))) (ok_t_n (ok_t_l (ok_iinc dX4_initialise_137 rfl)) (ok_t_n (ok_t_l (ok_goto dX4_initialise_140 rfl)) (ok_t_l (ok_vreturn dX4_initialise_143)))))))))
theorem dX4_lowestOf_0 : decode cX4_lowestOf 0 = .ok (.iconst 0, 1) := by decide +kernel
theorem dX4_lowestOf_1 : decode cX4_lowestOf 1 = .ok (.istore_n 1, 1) := by decide +kernel
theorem dX4_lowestOf_2 : decode cX4_lowestOf 2 = .ok (.iload_n 1, 1) := by decide +kernel
theorem dX4_lowestOf_3 : decode cX4_lowestOf 3 = .ok (.bipush 6, 2) := by decide +kernel
theorem dX4_lowestOf_5 : decode cX4_lowestOf 5 = .ok (.if_icmp .ge 19, 3) := by decide +kernel
theorem dX4_lowestOf_8 : decode cX4_lowestOf 8 = .ok (.iload_n 0, 1) := by decide +kernel
theorem dX4_lowestOf_9 : decode cX4_lowestOf 9 = .ok (.iload_n 1, 1) := by decide +kernel
theorem dX4_lowestOf_10 : decode cX4_lowestOf 10 = .ok (.invokestatic 75, 3) := by decide +kernel
theorem dX4_lowestOf_13 : decode cX4_lowestOf 13 = .ok (.ifCond .eq 5, 3) := by decide +kernel
theorem dX4_lowestOf_16 : decode cX4_lowestOf 16 = .ok (.iload_n 1, 1) := by decide +kernel
theorem dX4_lowestOf_17 : decode cX4_lowestOf 17 = .ok (.ireturn, 1) := by decide +kernel
theorem dX4_lowestOf_18 : decode cX4_lowestOf 18 = .ok (.iinc 1 1, 3) := by decide +kernel
theorem dX4_lowestOf_21 : decode cX4_lowestOf 21 = .ok (.goto (-19), 3) := by decide +kernel
theorem dX4_lowestOf_24 : decode cX4_lowestOf 24 = .ok (.iconst (-1), 1) := by decide +kernel
theorem dX4_lowestOf_25 : decode cX4_lowestOf 25 = .ok (.ireturn, 1) := by decide +kernel
def g_X4_lowestOf : Nat → EA := (t_n 10 (t_n 3 (t_n 1 (t_l 0 (a_push 1 (.int 0))) (t_n 2 (t_l 1 (a_istore 2 1 1)) (t_l 2 (a_iload 1 1)))) (t_n 8 (t_n 5 (t_l 3 (a_push 2 (.int 6))) (t_l 5 (a_ic 24 (fun x y => decide (y ≤ x))))) (t_n 9 (t_l 8 (a_iload 1 0)) (t_l 9 (a_iload 1 1))))) (t_n 18 (t_n 16 (t_n 13 (t_l 10 (a_inv false 196 2 none)) (t_l 13 (a_if 18 (fun x => decide (x = 0))))) (t_n 17 (t_l 16 (a_iload 1 1)) (t_l 17 a_iret))) (t_n 24 (t_n 21 (t_l 18 (a_iinc 2 1 1)) (t_l 21 (a_goto 2))) (t_n 25 (t_l 24 (a_push 1 (.int (-1)))) (t_l 25 a_iret)))))
set_option maxRecDepth 100000 in
theorem k_X4_lowestOf (sc : Nat × (Nat → Int32)) (d : Nat) : ∀ pc, ev_Ok cX4_lowestOf 2 [] RX4 lw_g lw_n (lw_q sc) vwCl false (ev_CO mt lw_g lw_n (lw_q sc) vwCl d) pc (g_X4_lowestOf pc) := (ok_t_n (ok_t_n (ok_t_n (ok_t_l (ok_iconst dX4_lowestOf_0 rfl)) (ok_t_n (ok_t_l (ok_istore_n dX4_lowestOf_1 rfl)) (ok_t_l (ok_iload_n dX4_lowestOf_2 rfl)))) (ok_t_n (ok_t_n (ok_t_l (ok_bipush dX4_lowestOf_3 rfl)) (ok_t_l (ok_icmp_ge dX4_lowestOf_5 rfl))) (ok_t_n (ok_t_l (ok_iload_n dX4_lowestOf_8 rfl)) (ok_t_l (ok_iload_n dX4_lowestOf_9 rfl))))) (ok_t_n (ok_t_n (ok_t_n (ok_t_l (ok_inv (run_SN (y := 196) (n := 2) dX4_lowestOf_10 cz_196 gdG cc_196 ci_196 nst_13 cm_196 cd_196 cl_196))) (ok_t_l (ok_if_eq dX4_lowestOf_13 rfl))) (ok_t_n (ok_t_l (ok_iload_n dX4_lowestOf_16 rfl)) (ok_t_l (ok_ireturn dX4_lowestOf_17)))) (ok_t_n (ok_t_n (ok_t_l (ok_iinc dX4_lowestOf_18 rfl)) (ok_t_l (ok_goto dX4_lowestOf_21 rfl))) (ok_t_n (ok_t_l (ok_iconst dX4_lowestOf_24 rfl)) (ok_t_l (ok_ireturn dX4_lowestOf_25))))))
theorem dX4_closeOne_0 : decode cX4_closeOne 0 = .ok (.aload_n 0, 1) := by decide +kernel
theorem dX4_closeOne_1 : decode cX4_closeOne 1 = .ok (.iload_n 1, 1) := by decide +kernel
theorem dX4_closeOne_2 : decode cX4_closeOne 2 = .ok (.invokevirtual 61, 3) := by decide +kernel
theorem dX4_closeOne_5 : decode cX4_closeOne 5 = .ok (.ifCond .ne 5, 3) := by decide +kernel
theorem dX4_closeOne_8 : decode cX4_closeOne 8 = .ok (.iconst 0, 1) := by decide +kernel
theorem dX4_closeOne_9 : decode cX4_closeOne 9 = .ok (.ireturn, 1) := by decide +kernel
theorem dX4_closeOne_10 : decode cX4_closeOne 10 = .ok (.aload_n 0, 1) := by decide +kernel
theorem dX4_closeOne_11 : decode cX4_closeOne 11 = .ok (.iload_n 1, 1) := by decide +kernel
theorem dX4_closeOne_12 : decode cX4_closeOne 12 = .ok (.invokevirtual 173, 3) := by decide +kernel
theorem dX4_closeOne_15 : decode cX4_closeOne 15 = .ok (.istore_n 2, 1) := by decide +kernel
theorem dX4_closeOne_16 : decode cX4_closeOne 16 = .ok (.aload_n 0, 1) := by decide +kernel
theorem dX4_closeOne_17 : decode cX4_closeOne 17 = .ok (.getfield 27, 3) := by decide +kernel
theorem dX4_closeOne_20 : decode cX4_closeOne 20 = .ok (.iload_n 1, 1) := by decide +kernel
theorem dX4_closeOne_21 : decode cX4_closeOne 21 = .ok (.dup2, 1) := by decide +kernel
theorem dX4_closeOne_22 : decode cX4_closeOne 22 = .ok (.iaload, 1) := by decide +kernel
theorem dX4_closeOne_23 : decode cX4_closeOne 23 = .ok (.iconst 1, 1) := by decide +kernel
theorem dX4_closeOne_24 : decode cX4_closeOne 24 = .ok (.isub, 1) := by decide +kernel
theorem dX4_closeOne_25 : decode cX4_closeOne 25 = .ok (.iastore, 1) := by decide +kernel
theorem dX4_closeOne_26 : decode cX4_closeOne 26 = .ok (.aload_n 0, 1) := by decide +kernel
theorem dX4_closeOne_27 : decode cX4_closeOne 27 = .ok (.iload_n 2, 1) := by decide +kernel
theorem dX4_closeOne_28 : decode cX4_closeOne 28 = .ok (.invokevirtual 176, 3) := by decide +kernel
theorem dX4_closeOne_31 : decode cX4_closeOne 31 = .ok (.iload_n 2, 1) := by decide +kernel
theorem dX4_closeOne_32 : decode cX4_closeOne 32 = .ok (.invokestatic 99, 3) := by decide +kernel
theorem dX4_closeOne_35 : decode cX4_closeOne 35 = .ok (.ireturn, 1) := by decide +kernel
def g_X4_closeOne : Nat → EA := (t_n 20 (t_n 10 (t_n 5 (t_n 1 (t_l 0 (a_aload 1 0)) (t_n 2 (t_l 1 (a_iload 1 1)) (t_l 2 (a_inv true 43 2 (some 4))))) (t_n 8 (t_l 5 (a_if 10 (fun x => !decide (x = 0)))) (t_n 9 (t_l 8 (a_push 1 (.int 0))) (t_l 9 a_iret)))) (t_n 15 (t_n 11 (t_l 10 (a_aload 1 0)) (t_n 12 (t_l 11 (a_iload 1 1)) (t_l 12 (a_inv true 72 2 (some 4))))) (t_n 16 (t_l 15 (a_istore 3 1 2)) (t_n 17 (t_l 16 (a_aload 1 0)) (t_l 17 (a_getf 4 5)))))) (t_n 26 (t_n 23 (t_n 21 (t_l 20 (a_iload 1 1)) (t_n 22 (t_l 21 a_dup2) (t_l 22 (a_ild 0)))) (t_n 24 (t_l 23 (a_push 1 (.int 1))) (t_n 25 (t_l 24 (a_ii 1 (fun x y => x - y))) (t_l 25 (a_ist 0))))) (t_n 31 (t_n 27 (t_l 26 (a_aload 1 0)) (t_n 28 (t_l 27 (a_iload 1 2)) (t_l 28 (a_inv true 73 2 (some 4))))) (t_n 32 (t_l 31 (a_iload 1 2)) (t_n 35 (t_l 32 (a_inv true 209 1 none)) (t_l 35 a_iret))))))
set_option maxRecDepth 100000 in
theorem k_X4_closeOne (sc : Nat × (Nat → Int32)) (d : Nat) : ∀ pc, ev_Ok cX4_closeOne 3 [] RX4 lw_g lw_n (lw_q sc) vwCl false (ev_CO mt lw_g lw_n (lw_q sc) vwCl d) pc (g_X4_closeOne pc) := (ok_t_n (ok_t_n (ok_t_n (ok_t_n (ok_t_l (ok_aload_n dX4_closeOne_0 rfl)) (ok_t_n (ok_t_l (ok_iload_n dX4_closeOne_1 rfl)) (ok_t_l (ok_inv (run_V (y := 43) (n := 1) (ci := 4) dX4_closeOne_2 cz_43 gdG cc_43 ci_43 w_696 cm_43 cs_43 cd_43 cl_43 rfl rfl))))) (ok_t_n (ok_t_l (ok_if_ne dX4_closeOne_5 rfl)) (ok_t_n (ok_t_l (ok_iconst dX4_closeOne_8 rfl)) (ok_t_l (ok_ireturn dX4_closeOne_9))))) (ok_t_n (ok_t_n (ok_t_l (ok_aload_n dX4_closeOne_10 rfl)) (ok_t_n (ok_t_l (ok_iload_n dX4_closeOne_11 rfl)) (ok_t_l (ok_inv (run_V (y := 72) (n := 1) (ci := 4) dX4_closeOne_12 cz_72 gdG cc_72 ci_72 w_753 cm_72 cs_72 cd_72 cl_72 rfl rfl))))) (ok_t_n (ok_t_l (ok_istore_n dX4_closeOne_15 rfl)) (ok_t_n (ok_t_l (ok_aload_n dX4_closeOne_16 rfl)) (ok_t_l (ok_getfield dX4_closeOne_17 (ci := 4) (kf := 5) rfl inGX4 (by decide) w_1057)))))) (ok_t_n (ok_t_n (ok_t_n (ok_t_l (ok_iload_n dX4_closeOne_20 rfl)) (ok_t_n (ok_t_l (ok_dup2 dX4_closeOne_21)) (ok_t_l (ok_iaload dX4_closeOne_22)))) (ok_t_n (ok_t_l (ok_iconst dX4_closeOne_23 rfl)) (ok_t_n (ok_t_l (ok_isub dX4_closeOne_24)) (ok_t_l (ok_iastore dX4_closeOne_25))))) (ok_t_n (ok_t_n (ok_t_l (ok_aload_n dX4_closeOne_26 rfl)) (ok_t_n (ok_t_l (ok_iload_n dX4_closeOne_27 rfl)) (ok_t_l (ok_inv (run_V (y := 73) (n := 1) (ci := 4) dX4_closeOne_28 cz_73 gdG cc_73 ci_73 w_762 cm_73 cs_73 cd_73 cl_73 rfl rfl))))) (ok_t_n (ok_t_l (ok_iload_n dX4_closeOne_31 rfl)) (ok_t_n (ok_t_l (ok_inv (run_S (y := 209) (n := 1) dX4_closeOne_32 cz_209 gdG cc_209 ci_209 w_739 cm_209 cd_209 cl_209))) (ok_t_l (ok_ireturn dX4_closeOne_35)))))))
theorem dX4_leavingBy_0 : decode cX4_leavingBy 0 = .ok (.iconst 0, 1) := by decide +kernel
theorem dX4_leavingBy_1 : decode cX4_leavingBy 1 = .ok (.istore_n 2, 1) := by decide +kernel
theorem dX4_leavingBy_2 : decode cX4_leavingBy 2 = .ok (.iconst 0, 1) := by decide +kernel
theorem dX4_leavingBy_3 : decode cX4_leavingBy 3 = .ok (.istore_n 3, 1) := by decide +kernel
theorem dX4_leavingBy_4 : decode cX4_leavingBy 4 = .ok (.iload_n 3, 1) := by decide +kernel
theorem dX4_leavingBy_5 : decode cX4_leavingBy 5 = .ok (.bipush 6, 2) := by decide +kernel
theorem dX4_leavingBy_7 : decode cX4_leavingBy 7 = .ok (.if_icmp .ge 45, 3) := by decide +kernel
theorem dX4_leavingBy_10 : decode cX4_leavingBy 10 = .ok (.aload_n 0, 1) := by decide +kernel
theorem dX4_leavingBy_11 : decode cX4_leavingBy 11 = .ok (.iload_n 3, 1) := by decide +kernel
theorem dX4_leavingBy_12 : decode cX4_leavingBy 12 = .ok (.invokevirtual 179, 3) := by decide +kernel
theorem dX4_leavingBy_15 : decode cX4_leavingBy 15 = .ok (.iload_n 3, 1) := by decide +kernel
theorem dX4_leavingBy_16 : decode cX4_leavingBy 16 = .ok (.iload_n 1, 1) := by decide +kernel
theorem dX4_leavingBy_17 : decode cX4_leavingBy 17 = .ok (.if_icmp .ne 7, 3) := by decide +kernel
theorem dX4_leavingBy_20 : decode cX4_leavingBy 20 = .ok (.iconst 1, 1) := by decide +kernel
theorem dX4_leavingBy_21 : decode cX4_leavingBy 21 = .ok (.goto 4, 3) := by decide +kernel
theorem dX4_leavingBy_24 : decode cX4_leavingBy 24 = .ok (.iconst 0, 1) := by decide +kernel
theorem dX4_leavingBy_25 : decode cX4_leavingBy 25 = .ok (.isub, 1) := by decide +kernel
theorem dX4_leavingBy_26 : decode cX4_leavingBy 26 = .ok (.istore 4, 2) := by decide +kernel
theorem dX4_leavingBy_28 : decode cX4_leavingBy 28 = .ok (.iload 4, 2) := by decide +kernel
theorem dX4_leavingBy_30 : decode cX4_leavingBy 30 = .ok (.ifCond .le 16, 3) := by decide +kernel
theorem dX4_leavingBy_33 : decode cX4_leavingBy 33 = .ok (.aload_n 0, 1) := by decide +kernel
theorem dX4_leavingBy_34 : decode cX4_leavingBy 34 = .ok (.iload_n 3, 1) := by decide +kernel
theorem dX4_leavingBy_35 : decode cX4_leavingBy 35 = .ok (.invokevirtual 145, 3) := by decide +kernel
theorem dX4_leavingBy_38 : decode cX4_leavingBy 38 = .ok (.pop, 1) := by decide +kernel
theorem dX4_leavingBy_39 : decode cX4_leavingBy 39 = .ok (.iload_n 2, 1) := by decide +kernel
theorem dX4_leavingBy_40 : decode cX4_leavingBy 40 = .ok (.aload_n 0, 1) := by decide +kernel
theorem dX4_leavingBy_41 : decode cX4_leavingBy 41 = .ok (.getfield 48, 3) := by decide +kernel
theorem dX4_leavingBy_44 : decode cX4_leavingBy 44 = .ok (.ior, 1) := by decide +kernel
theorem dX4_leavingBy_45 : decode cX4_leavingBy 45 = .ok (.istore_n 2, 1) := by decide +kernel
theorem dX4_leavingBy_46 : decode cX4_leavingBy 46 = .ok (.iinc 3 1, 3) := by decide +kernel
theorem dX4_leavingBy_49 : decode cX4_leavingBy 49 = .ok (.goto (-45), 3) := by decide +kernel
theorem dX4_leavingBy_52 : decode cX4_leavingBy 52 = .ok (.aload_n 0, 1) := by decide +kernel
theorem dX4_leavingBy_53 : decode cX4_leavingBy 53 = .ok (.invokevirtual 95, 3) := by decide +kernel
theorem dX4_leavingBy_56 : decode cX4_leavingBy 56 = .ok (.iload_n 2, 1) := by decide +kernel
theorem dX4_leavingBy_57 : decode cX4_leavingBy 57 = .ok (.iconst (-1), 1) := by decide +kernel
theorem dX4_leavingBy_58 : decode cX4_leavingBy 58 = .ok (.ixor, 1) := by decide +kernel
theorem dX4_leavingBy_59 : decode cX4_leavingBy 59 = .ok (.iand, 1) := by decide +kernel
theorem dX4_leavingBy_60 : decode cX4_leavingBy 60 = .ok (.ireturn, 1) := by decide +kernel
def g_X4_leavingBy : Nat → EA := (t_n 30 (t_n 12 (t_n 4 (t_n 2 (t_n 1 (t_l 0 (a_push 1 (.int 0))) (t_l 1 (a_istore 5 1 2))) (t_n 3 (t_l 2 (a_push 1 (.int 0))) (t_l 3 (a_istore 5 1 3)))) (t_n 7 (t_n 5 (t_l 4 (a_iload 1 3)) (t_l 5 (a_push 2 (.int 6)))) (t_n 10 (t_l 7 (a_ic 52 (fun x y => decide (y ≤ x)))) (t_n 11 (t_l 10 (a_aload 1 0)) (t_l 11 (a_iload 1 3)))))) (t_n 21 (t_n 16 (t_n 15 (t_l 12 (a_inv true 48 2 (some 4))) (t_l 15 (a_iload 1 3))) (t_n 17 (t_l 16 (a_iload 1 1)) (t_n 20 (t_l 17 (a_ic 24 (fun x y => !decide (x = y)))) (t_l 20 (a_push 1 (.int 1)))))) (t_n 25 (t_n 24 (t_l 21 (a_goto 25)) (t_l 24 (a_push 1 (.int 0)))) (t_n 26 (t_l 25 (a_ii 1 (fun x y => x - y))) (t_n 28 (t_l 26 (a_istore 5 2 4)) (t_l 28 (a_iload 2 4))))))) (t_n 45 (t_n 38 (t_n 34 (t_n 33 (t_l 30 (a_if 46 (fun x => decide (x ≤ 0)))) (t_l 33 (a_aload 1 0))) (t_n 35 (t_l 34 (a_iload 1 3)) (t_l 35 (a_inv true 65 2 (some 4))))) (t_n 40 (t_n 39 (t_l 38 a_pop) (t_l 39 (a_iload 1 2))) (t_n 41 (t_l 40 (a_aload 1 0)) (t_n 44 (t_l 41 (a_getf 4 12)) (t_l 44 (a_ii 1 (fun x y => x ||| y))))))) (t_n 56 (t_n 49 (t_n 46 (t_l 45 (a_istore 5 1 2)) (t_l 46 (a_iinc 5 3 1))) (t_n 52 (t_l 49 (a_goto 4)) (t_n 53 (t_l 52 (a_aload 1 0)) (t_l 53 (a_inv true 64 1 (some 4)))))) (t_n 58 (t_n 57 (t_l 56 (a_iload 1 2)) (t_l 57 (a_push 1 (.int (-1))))) (t_n 59 (t_l 58 (a_ii 1 (fun x y => x ^^^ y))) (t_n 60 (t_l 59 (a_ii 1 (fun x y => x &&& y))) (t_l 60 a_iret)))))))
set_option maxRecDepth 100000 in
theorem k_X4_leavingBy (sc : Nat × (Nat → Int32)) (d : Nat) : ∀ pc, ev_Ok cX4_leavingBy 5 [] RX4 lw_g lw_n (lw_q sc) vwCl false (ev_CO mt lw_g lw_n (lw_q sc) vwCl d) pc (g_X4_leavingBy pc) := (ok_t_n (ok_t_n (ok_t_n (ok_t_n (ok_t_n (ok_t_l (ok_iconst dX4_leavingBy_0 rfl)) (ok_t_l (ok_istore_n dX4_leavingBy_1 rfl))) (ok_t_n (ok_t_l (ok_iconst dX4_leavingBy_2 rfl)) (ok_t_l (ok_istore_n dX4_leavingBy_3 rfl)))) (ok_t_n (ok_t_n (ok_t_l (ok_iload_n dX4_leavingBy_4 rfl)) (ok_t_l (ok_bipush dX4_leavingBy_5 rfl))) (ok_t_n (ok_t_l (ok_icmp_ge dX4_leavingBy_7 rfl)) (ok_t_n (ok_t_l (ok_aload_n dX4_leavingBy_10 rfl)) (ok_t_l (ok_iload_n dX4_leavingBy_11 rfl)))))) (ok_t_n (ok_t_n (ok_t_n (ok_t_l (ok_inv (run_V (y := 48) (n := 1) (ci := 4) dX4_leavingBy_12 cz_48 gdG cc_48 ci_48 w_757 cm_48 cs_48 cd_48 cl_48 rfl rfl))) (ok_t_l (ok_iload_n dX4_leavingBy_15 rfl))) (ok_t_n (ok_t_l (ok_iload_n dX4_leavingBy_16 rfl)) (ok_t_n (ok_t_l (ok_icmp_ne dX4_leavingBy_17 rfl)) (ok_t_l (ok_iconst dX4_leavingBy_20 rfl))))) (ok_t_n (ok_t_n (ok_t_l (ok_goto dX4_leavingBy_21 rfl)) (ok_t_l (ok_iconst dX4_leavingBy_24 rfl))) (ok_t_n (ok_t_l (ok_isub dX4_leavingBy_25)) (ok_t_n (ok_t_l (ok_istore dX4_leavingBy_26)) (ok_t_l (ok_iload dX4_leavingBy_28))))))) (ok_t_n (ok_t_n (ok_t_n (ok_t_n (ok_t_l (ok_if_le dX4_leavingBy_30 rfl)) (ok_t_l (ok_aload_n dX4_leavingBy_33 rfl))) (ok_t_n (ok_t_l (ok_iload_n dX4_leavingBy_34 rfl)) (ok_t_l (ok_inv (run_V (y := 65) (n := 1) (ci := 4) dX4_leavingBy_35 cz_65 gdG cc_65 ci_65 w_697 cm_65 cs_65 cd_65 cl_65 rfl rfl))))) (ok_t_n (ok_t_n (ok_t_l (ok_pop dX4_leavingBy_38)) (ok_t_l (ok_iload_n dX4_leavingBy_39 rfl))) (ok_t_n (ok_t_l (ok_aload_n dX4_leavingBy_40 rfl)) (ok_t_n (ok_t_l (ok_getfield dX4_leavingBy_41 (ci := 4) (kf := 12) rfl inGX4 (by decide) w_1064)) (ok_t_l (ok_ior dX4_leavingBy_44)))))) (ok_t_n (ok_t_n (ok_t_n (ok_t_l (ok_istore_n dX4_leavingBy_45 rfl)) (ok_t_l (ok_iinc dX4_leavingBy_46 rfl))) (ok_t_n (ok_t_l (ok_goto dX4_leavingBy_49 rfl)) (ok_t_n (ok_t_l (ok_aload_n dX4_leavingBy_52 rfl)) (ok_t_l (ok_inv (run_V (y := 64) (n := 0) (ci := 4) dX4_leavingBy_53 cz_64 gdG cc_64 ci_64 w_758 cm_64 cs_64 cd_64 cl_64 rfl rfl)))))) (ok_t_n (ok_t_n (ok_t_l (ok_iload_n dX4_leavingBy_56 rfl)) (ok_t_l (ok_iconst dX4_leavingBy_57 rfl))) (ok_t_n (ok_t_l (ok_ixor dX4_leavingBy_58)) (ok_t_n (ok_t_l (ok_iand dX4_leavingBy_59)) (ok_t_l (ok_ireturn dX4_leavingBy_60))))))))
theorem dX4_finish_0 : decode cX4_finish 0 = .ok (.aload_n 0, 1) := by decide +kernel
theorem dX4_finish_1 : decode cX4_finish 1 = .ok (.aload_n 0, 1) := by decide +kernel
theorem dX4_finish_2 : decode cX4_finish 2 = .ok (.getfield 36, 3) := by decide +kernel
theorem dX4_finish_5 : decode cX4_finish 5 = .ok (.aload_n 0, 1) := by decide +kernel
theorem dX4_finish_6 : decode cX4_finish 6 = .ok (.getfield 55, 3) := by decide +kernel
theorem dX4_finish_9 : decode cX4_finish 9 = .ok (.iload_n 1, 1) := by decide +kernel
theorem dX4_finish_10 : decode cX4_finish 10 = .ok (.invokestatic 182, 3) := by decide +kernel
theorem dX4_finish_13 : decode cX4_finish 13 = .ok (.putfield 55, 3) := by decide +kernel
theorem dX4_finish_16 : decode cX4_finish 16 = .ok (.aload_n 0, 1) := by decide +kernel
theorem dX4_finish_17 : decode cX4_finish 17 = .ok (.aload_n 0, 1) := by decide +kernel
theorem dX4_finish_18 : decode cX4_finish 18 = .ok (.getfield 39, 3) := by decide +kernel
theorem dX4_finish_21 : decode cX4_finish 21 = .ok (.aload_n 0, 1) := by decide +kernel
theorem dX4_finish_22 : decode cX4_finish 22 = .ok (.getfield 58, 3) := by decide +kernel
theorem dX4_finish_25 : decode cX4_finish 25 = .ok (.iload_n 1, 1) := by decide +kernel
theorem dX4_finish_26 : decode cX4_finish 26 = .ok (.invokestatic 182, 3) := by decide +kernel
theorem dX4_finish_29 : decode cX4_finish 29 = .ok (.putfield 58, 3) := by decide +kernel
theorem dX4_finish_32 : decode cX4_finish 32 = .ok (.iconst 0, 1) := by decide +kernel
theorem dX4_finish_33 : decode cX4_finish 33 = .ok (.istore_n 2, 1) := by decide +kernel
theorem dX4_finish_34 : decode cX4_finish 34 = .ok (.iload_n 2, 1) := by decide +kernel
theorem dX4_finish_35 : decode cX4_finish 35 = .ok (.bipush 6, 2) := by decide +kernel
theorem dX4_finish_37 : decode cX4_finish 37 = .ok (.if_icmp .ge 86, 3) := by decide +kernel
theorem dX4_finish_40 : decode cX4_finish 40 = .ok (.iload_n 1, 1) := by decide +kernel
theorem dX4_finish_41 : decode cX4_finish 41 = .ok (.iload_n 2, 1) := by decide +kernel
theorem dX4_finish_42 : decode cX4_finish 42 = .ok (.invokestatic 75, 3) := by decide +kernel
theorem dX4_finish_45 : decode cX4_finish 45 = .ok (.ifCond .eq 10, 3) := by decide +kernel
theorem dX4_finish_48 : decode cX4_finish 48 = .ok (.aload_n 0, 1) := by decide +kernel
theorem dX4_finish_49 : decode cX4_finish 49 = .ok (.getfield 30, 3) := by decide +kernel
theorem dX4_finish_52 : decode cX4_finish 52 = .ok (.iload_n 2, 1) := by decide +kernel
theorem dX4_finish_53 : decode cX4_finish 53 = .ok (.iconst (-1), 1) := by decide +kernel
theorem dX4_finish_54 : decode cX4_finish 54 = .ok (.iastore, 1) := by decide +kernel
theorem dX4_finish_55 : decode cX4_finish 55 = .ok (.iconst 0, 1) := by decide +kernel
theorem dX4_finish_56 : decode cX4_finish 56 = .ok (.istore_n 3, 1) := by decide +kernel
theorem dX4_finish_57 : decode cX4_finish 57 = .ok (.iload_n 3, 1) := by decide +kernel
theorem dX4_finish_58 : decode cX4_finish 58 = .ok (.bipush 20, 2) := by decide +kernel
theorem dX4_finish_60 : decode cX4_finish 60 = .ok (.if_icmp .ge 57, 3) := by decide +kernel
theorem dX4_finish_63 : decode cX4_finish 63 = .ok (.aload_n 0, 1) := by decide +kernel
theorem dX4_finish_64 : decode cX4_finish 64 = .ok (.getfield 33, 3) := by decide +kernel
theorem dX4_finish_67 : decode cX4_finish 67 = .ok (.iload_n 2, 1) := by decide +kernel
theorem dX4_finish_68 : decode cX4_finish 68 = .ok (.bipush 20, 2) := by decide +kernel
theorem dX4_finish_70 : decode cX4_finish 70 = .ok (.imul, 1) := by decide +kernel
theorem dX4_finish_71 : decode cX4_finish 71 = .ok (.iload_n 3, 1) := by decide +kernel
theorem dX4_finish_72 : decode cX4_finish 72 = .ok (.iadd, 1) := by decide +kernel
theorem dX4_finish_73 : decode cX4_finish 73 = .ok (.iaload, 1) := by decide +kernel
theorem dX4_finish_74 : decode cX4_finish 74 = .ok (.istore 4, 2) := by decide +kernel
theorem dX4_finish_76 : decode cX4_finish 76 = .ok (.iload 4, 2) := by decide +kernel
theorem dX4_finish_78 : decode cX4_finish 78 = .ok (.iconst (-1), 1) := by decide +kernel
theorem dX4_finish_79 : decode cX4_finish 79 = .ok (.if_icmp .eq 32, 3) := by decide +kernel
theorem dX4_finish_82 : decode cX4_finish 82 = .ok (.iload_n 1, 1) := by decide +kernel
theorem dX4_finish_83 : decode cX4_finish 83 = .ok (.iload_n 2, 1) := by decide +kernel
theorem dX4_finish_84 : decode cX4_finish 84 = .ok (.invokestatic 75, 3) := by decide +kernel
theorem dX4_finish_87 : decode cX4_finish 87 = .ok (.ifCond .ne 12, 3) := by decide +kernel
theorem dX4_finish_90 : decode cX4_finish 90 = .ok (.iload_n 1, 1) := by decide +kernel
theorem dX4_finish_91 : decode cX4_finish 91 = .ok (.iload 4, 2) := by decide +kernel
theorem dX4_finish_93 : decode cX4_finish 93 = .ok (.invokestatic 75, 3) := by decide +kernel
theorem dX4_finish_96 : decode cX4_finish 96 = .ok (.ifCond .eq 15, 3) := by decide +kernel
theorem dX4_finish_99 : decode cX4_finish 99 = .ok (.aload_n 0, 1) := by decide +kernel
theorem dX4_finish_100 : decode cX4_finish 100 = .ok (.getfield 33, 3) := by decide +kernel
theorem dX4_finish_103 : decode cX4_finish 103 = .ok (.iload_n 2, 1) := by decide +kernel
theorem dX4_finish_104 : decode cX4_finish 104 = .ok (.bipush 20, 2) := by decide +kernel
theorem dX4_finish_106 : decode cX4_finish 106 = .ok (.imul, 1) := by decide +kernel
theorem dX4_finish_107 : decode cX4_finish 107 = .ok (.iload_n 3, 1) := by decide +kernel
theorem dX4_finish_108 : decode cX4_finish 108 = .ok (.iadd, 1) := by decide +kernel
theorem dX4_finish_109 : decode cX4_finish 109 = .ok (.iconst (-1), 1) := by decide +kernel
theorem dX4_finish_110 : decode cX4_finish 110 = .ok (.iastore, 1) := by decide +kernel
theorem dX4_finish_111 : decode cX4_finish 111 = .ok (.iinc 3 1, 3) := by decide +kernel
theorem dX4_finish_114 : decode cX4_finish 114 = .ok (.goto (-57), 3) := by decide +kernel
theorem dX4_finish_117 : decode cX4_finish 117 = .ok (.iinc 2 1, 3) := by decide +kernel
theorem dX4_finish_120 : decode cX4_finish 120 = .ok (.goto (-86), 3) := by decide +kernel
theorem dX4_finish_123 : decode cX4_finish 123 = .ok (.return_, 1) := by decide +kernel
def g_X4_finish : Nat → EA := (t_n 60 (t_n 33 (t_n 16 (t_n 6 (t_n 2 (t_n 1 (t_l 0 (a_aload 1 0)) (t_l 1 (a_aload 1 0))) (t_n 5 (t_l 2 (a_getf 4 8)) (t_l 5 (a_aload 1 0)))) (t_n 10 (t_n 9 (t_l 6 (a_getf 4 14)) (t_l 9 (a_iload 1 1))) (t_n 13 (t_l 10 (a_inv true 74 3 none)) (t_l 13 (a_putf 0 4 14))))) (t_n 22 (t_n 18 (t_n 17 (t_l 16 (a_aload 1 0)) (t_l 17 (a_aload 1 0))) (t_n 21 (t_l 18 (a_getf 4 9)) (t_l 21 (a_aload 1 0)))) (t_n 26 (t_n 25 (t_l 22 (a_getf 4 15)) (t_l 25 (a_iload 1 1))) (t_n 29 (t_l 26 (a_inv true 74 3 none)) (t_n 32 (t_l 29 (a_putf 0 4 15)) (t_l 32 (a_push 1 (.int 0)))))))) (t_n 48 (t_n 40 (t_n 35 (t_n 34 (t_l 33 (a_istore 5 1 2)) (t_l 34 (a_iload 1 2))) (t_n 37 (t_l 35 (a_push 2 (.int 6))) (t_l 37 (a_ic 123 (fun x y => decide (y ≤ x)))))) (t_n 42 (t_n 41 (t_l 40 (a_iload 1 1)) (t_l 41 (a_iload 1 2))) (t_n 45 (t_l 42 (a_inv false 196 2 none)) (t_l 45 (a_if 55 (fun x => decide (x = 0))))))) (t_n 54 (t_n 52 (t_n 49 (t_l 48 (a_aload 1 0)) (t_l 49 (a_getf 4 6))) (t_n 53 (t_l 52 (a_iload 1 2)) (t_l 53 (a_push 1 (.int (-1)))))) (t_n 56 (t_n 55 (t_l 54 (a_ist 0)) (t_l 55 (a_push 1 (.int 0)))) (t_n 57 (t_l 56 (a_istore 5 1 3)) (t_n 58 (t_l 57 (a_iload 1 3)) (t_l 58 (a_push 2 (.int 20))))))))) (t_n 90 (t_n 73 (t_n 68 (t_n 64 (t_n 63 (t_l 60 (a_ic 117 (fun x y => decide (y ≤ x)))) (t_l 63 (a_aload 1 0))) (t_n 67 (t_l 64 (a_getf 4 7)) (t_l 67 (a_iload 1 2)))) (t_n 71 (t_n 70 (t_l 68 (a_push 2 (.int 20))) (t_l 70 (a_ii 1 (fun x y => x * y)))) (t_n 72 (t_l 71 (a_iload 1 3)) (t_l 72 (a_ii 1 (fun x y => x + y)))))) (t_n 79 (t_n 76 (t_n 74 (t_l 73 (a_ild 0)) (t_l 74 (a_istore 5 2 4))) (t_n 78 (t_l 76 (a_iload 2 4)) (t_l 78 (a_push 1 (.int (-1)))))) (t_n 83 (t_n 82 (t_l 79 (a_ic 111 (fun x y => decide (x = y)))) (t_l 82 (a_iload 1 1))) (t_n 84 (t_l 83 (a_iload 1 2)) (t_n 87 (t_l 84 (a_inv false 196 2 none)) (t_l 87 (a_if 99 (fun x => !decide (x = 0))))))))) (t_n 107 (t_n 99 (t_n 93 (t_n 91 (t_l 90 (a_iload 1 1)) (t_l 91 (a_iload 2 4))) (t_n 96 (t_l 93 (a_inv false 196 2 none)) (t_l 96 (a_if 111 (fun x => decide (x = 0)))))) (t_n 103 (t_n 100 (t_l 99 (a_aload 1 0)) (t_l 100 (a_getf 4 7))) (t_n 104 (t_l 103 (a_iload 1 2)) (t_n 106 (t_l 104 (a_push 2 (.int 20))) (t_l 106 (a_ii 1 (fun x y => x * y))))))) (t_n 111 (t_n 109 (t_n 108 (t_l 107 (a_iload 1 3)) (t_l 108 (a_ii 1 (fun x y => x + y)))) (t_n 110 (t_l 109 (a_push 1 (.int (-1)))) (t_l 110 (a_ist 0)))) (t_n 117 (t_n 114 (t_l 111 (a_iinc 5 3 1)) (t_l 114 (a_goto 57))) (t_n 120 (t_l 117 (a_iinc 5 2 1)) (t_n 123 (t_l 120 (a_goto 34)) (t_l 123 a_vret))))))))
set_option maxRecDepth 100000 in
theorem k_X4_finish (sc : Nat × (Nat → Int32)) (d : Nat) : ∀ pc, ev_Ok cX4_finish 5 [] RX4 lw_g lw_n (lw_q sc) vwCl false (ev_CO mt lw_g lw_n (lw_q sc) vwCl d) pc (g_X4_finish pc) := (ok_t_n (ok_t_n (ok_t_n (ok_t_n (ok_t_n (ok_t_n (ok_t_l (ok_aload_n dX4_finish_0 rfl)) (ok_t_l (ok_aload_n dX4_finish_1 rfl))) (ok_t_n (ok_t_l (ok_getfield dX4_finish_2 (ci := 4) (kf := 8) rfl inGX4 (by decide) w_1060)) (ok_t_l (ok_aload_n dX4_finish_5 rfl)))) (ok_t_n (ok_t_n (ok_t_l (ok_getfield dX4_finish_6 (ci := 4) (kf := 14) rfl inGX4 (by decide) w_1066)) (ok_t_l (ok_iload_n dX4_finish_9 rfl))) (ok_t_n (ok_t_l (ok_inv (run_S (y := 74) (n := 3) dX4_finish_10 cz_74 gdG cc_74 ci_74 w_766 cm_74 cd_74 cl_74))) (ok_t_l (ok_putfield dX4_finish_13 (ci := 4) (kf := 14) rfl inGX4 (by decide) tyX4_ok nmX4 rfl w_1066 rfl))))) (ok_t_n (ok_t_n (ok_t_n (ok_t_l (ok_aload_n dX4_finish_16 rfl)) (ok_t_l (ok_aload_n dX4_finish_17 rfl))) (ok_t_n (ok_t_l (ok_getfield dX4_finish_18 (ci := 4) (kf := 9) rfl inGX4 (by decide) w_1061)) (ok_t_l (ok_aload_n dX4_finish_21 rfl)))) (ok_t_n (ok_t_n (ok_t_l (ok_getfield dX4_finish_22 (ci := 4) (kf := 15) rfl inGX4 (by decide) w_1067)) (ok_t_l (ok_iload_n dX4_finish_25 rfl))) (ok_t_n (ok_t_l (ok_inv (run_S (y := 74) (n := 3) dX4_finish_26 cz_74 gdG cc_74 ci_74 w_766 cm_74 cd_74 cl_74))) (ok_t_n (ok_t_l (ok_putfield dX4_finish_29 (ci := 4) (kf := 15) rfl inGX4 (by decide) tyX4_ok nmX4 rfl w_1067 rfl)) (ok_t_l (ok_iconst dX4_finish_32 rfl))))))) (ok_t_n (ok_t_n (ok_t_n (ok_t_n (ok_t_l (ok_istore_n dX4_finish_33 rfl)) (ok_t_l (ok_iload_n dX4_finish_34 rfl))) (ok_t_n (ok_t_l (ok_bipush dX4_finish_35 rfl)) (ok_t_l (ok_icmp_ge dX4_finish_37 rfl)))) (ok_t_n (ok_t_n (ok_t_l (ok_iload_n dX4_finish_40 rfl)) (ok_t_l (ok_iload_n dX4_finish_41 rfl))) (ok_t_n (ok_t_l (ok_inv (run_SN (y := 196) (n := 2) dX4_finish_42 cz_196 gdG cc_196 ci_196 nst_13 cm_196 cd_196 cl_196))) (ok_t_l (ok_if_eq dX4_finish_45 rfl))))) (ok_t_n (ok_t_n (ok_t_n (ok_t_l (ok_aload_n dX4_finish_48 rfl)) (ok_t_l (ok_getfield dX4_finish_49 (ci := 4) (kf := 6) rfl inGX4 (by decide) w_1058))) (ok_t_n (ok_t_l (ok_iload_n dX4_finish_52 rfl)) (ok_t_l (ok_iconst dX4_finish_53 rfl)))) (ok_t_n (ok_t_n (ok_t_l (ok_iastore dX4_finish_54)) (ok_t_l (ok_iconst dX4_finish_55 rfl))) (ok_t_n (ok_t_l (ok_istore_n dX4_finish_56 rfl)) (ok_t_n (ok_t_l (ok_iload_n dX4_finish_57 rfl)) (ok_t_l (ok_bipush dX4_finish_58 rfl)))))))) (ok_t_n (ok_t_n (ok_t_n (ok_t_n (ok_t_n (ok_t_l (ok_icmp_ge dX4_finish_60 rfl)) (ok_t_l (ok_aload_n dX4_finish_63 rfl))) (ok_t_n (ok_t_l (ok_getfield dX4_finish_64 (ci := 4) (kf := 7) rfl inGX4 (by decide) w_1059)) (ok_t_l (ok_iload_n dX4_finish_67 rfl)))) (ok_t_n (ok_t_n (ok_t_l (ok_bipush dX4_finish_68 rfl)) (ok_t_l (ok_imul dX4_finish_70))) (ok_t_n (ok_t_l (ok_iload_n dX4_finish_71 rfl)) (ok_t_l (ok_iadd dX4_finish_72))))) (ok_t_n (ok_t_n (ok_t_n (ok_t_l (ok_iaload dX4_finish_73)) (ok_t_l (ok_istore dX4_finish_74))) (ok_t_n (ok_t_l (ok_iload dX4_finish_76)) (ok_t_l (ok_iconst dX4_finish_78 rfl)))) (ok_t_n (ok_t_n (ok_t_l (ok_icmp_eq dX4_finish_79 rfl)) (ok_t_l (ok_iload_n dX4_finish_82 rfl))) (ok_t_n (ok_t_l (ok_iload_n dX4_finish_83 rfl)) (ok_t_n (ok_t_l (ok_inv (run_SN (y := 196) (n := 2) dX4_finish_84 cz_196 gdG cc_196 ci_196 nst_13 cm_196 cd_196 cl_196))) (ok_t_l (ok_if_ne dX4_finish_87 rfl))))))) (ok_t_n (ok_t_n (ok_t_n (ok_t_n (ok_t_l (ok_iload_n dX4_finish_90 rfl)) (ok_t_l (ok_iload dX4_finish_91))) (ok_t_n (ok_t_l (ok_inv (run_SN (y := 196) (n := 2) dX4_finish_93 cz_196 gdG cc_196 ci_196 nst_13 cm_196 cd_196 cl_196))) (ok_t_l (ok_if_eq dX4_finish_96 rfl)))) (ok_t_n (ok_t_n (ok_t_l (ok_aload_n dX4_finish_99 rfl)) (ok_t_l (ok_getfield dX4_finish_100 (ci := 4) (kf := 7) rfl inGX4 (by decide) w_1059))) (ok_t_n (ok_t_l (ok_iload_n dX4_finish_103 rfl)) (ok_t_n (ok_t_l (ok_bipush dX4_finish_104 rfl)) (ok_t_l (ok_imul dX4_finish_106)))))) (ok_t_n (ok_t_n (ok_t_n (ok_t_l (ok_iload_n dX4_finish_107 rfl)) (ok_t_l (ok_iadd dX4_finish_108))) (ok_t_n (ok_t_l (ok_iconst dX4_finish_109 rfl)) (ok_t_l (ok_iastore dX4_finish_110)))) (ok_t_n (ok_t_n (ok_t_l (ok_iinc dX4_finish_111 rfl)) (ok_t_l (ok_goto dX4_finish_114 rfl))) (ok_t_n (ok_t_l (ok_iinc dX4_finish_117 rfl)) (ok_t_n (ok_t_l (ok_goto dX4_finish_120 rfl)) (ok_t_l (ok_vreturn dX4_finish_123)))))))))
theorem dX4_without_0 : decode cX4_without 0 = .ok (.iconst 0, 1) := by decide +kernel
theorem dX4_without_1 : decode cX4_without 1 = .ok (.istore_n 3, 1) := by decide +kernel
theorem dX4_without_2 : decode cX4_without 2 = .ok (.iconst 0, 1) := by decide +kernel
theorem dX4_without_3 : decode cX4_without 3 = .ok (.istore 4, 2) := by decide +kernel
theorem dX4_without_5 : decode cX4_without 5 = .ok (.iload 4, 2) := by decide +kernel
theorem dX4_without_7 : decode cX4_without 7 = .ok (.iload_n 1, 1) := by decide +kernel
theorem dX4_without_8 : decode cX4_without 8 = .ok (.if_icmp .ge 43, 3) := by decide +kernel
theorem dX4_without_11 : decode cX4_without 11 = .ok (.iload 4, 2) := by decide +kernel
theorem dX4_without_13 : decode cX4_without 13 = .ok (.aload_n 0, 1) := by decide +kernel
theorem dX4_without_14 : decode cX4_without 14 = .ok (.arraylength, 1) := by decide +kernel
theorem dX4_without_15 : decode cX4_without 15 = .ok (.if_icmp .ge 36, 3) := by decide +kernel
theorem dX4_without_18 : decode cX4_without 18 = .ok (.iload_n 2, 1) := by decide +kernel
theorem dX4_without_19 : decode cX4_without 19 = .ok (.aload_n 0, 1) := by decide +kernel
theorem dX4_without_20 : decode cX4_without 20 = .ok (.iload 4, 2) := by decide +kernel
theorem dX4_without_22 : decode cX4_without 22 = .ok (.iaload, 1) := by decide +kernel
theorem dX4_without_23 : decode cX4_without 23 = .ok (.invokestatic 75, 3) := by decide +kernel
theorem dX4_without_26 : decode cX4_without 26 = .ok (.ifCond .ne 19, 3) := by decide +kernel
theorem dX4_without_29 : decode cX4_without 29 = .ok (.iload_n 3, 1) := by decide +kernel
theorem dX4_without_30 : decode cX4_without 30 = .ok (.aload_n 0, 1) := by decide +kernel
theorem dX4_without_31 : decode cX4_without 31 = .ok (.arraylength, 1) := by decide +kernel
theorem dX4_without_32 : decode cX4_without 32 = .ok (.if_icmp .ge 13, 3) := by decide +kernel
theorem dX4_without_35 : decode cX4_without 35 = .ok (.aload_n 0, 1) := by decide +kernel
theorem dX4_without_36 : decode cX4_without 36 = .ok (.iload_n 3, 1) := by decide +kernel
theorem dX4_without_37 : decode cX4_without 37 = .ok (.aload_n 0, 1) := by decide +kernel
theorem dX4_without_38 : decode cX4_without 38 = .ok (.iload 4, 2) := by decide +kernel
theorem dX4_without_40 : decode cX4_without 40 = .ok (.iaload, 1) := by decide +kernel
theorem dX4_without_41 : decode cX4_without 41 = .ok (.iastore, 1) := by decide +kernel
theorem dX4_without_42 : decode cX4_without 42 = .ok (.iinc 3 1, 3) := by decide +kernel
theorem dX4_without_45 : decode cX4_without 45 = .ok (.iinc 4 1, 3) := by decide +kernel
theorem dX4_without_48 : decode cX4_without 48 = .ok (.goto (-43), 3) := by decide +kernel
theorem dX4_without_51 : decode cX4_without 51 = .ok (.iload_n 3, 1) := by decide +kernel
theorem dX4_without_52 : decode cX4_without 52 = .ok (.ireturn, 1) := by decide +kernel
def g_X4_without : Nat → EA := (t_n 26 (t_n 13 (t_n 5 (t_n 2 (t_n 1 (t_l 0 (a_push 1 (.int 0))) (t_l 1 (a_istore 5 1 3))) (t_n 3 (t_l 2 (a_push 1 (.int 0))) (t_l 3 (a_istore 5 2 4)))) (t_n 8 (t_n 7 (t_l 5 (a_iload 2 4)) (t_l 7 (a_iload 1 1))) (t_n 11 (t_l 8 (a_ic 51 (fun x y => decide (y ≤ x)))) (t_l 11 (a_iload 2 4))))) (t_n 19 (t_n 15 (t_n 14 (t_l 13 (a_aload 1 0)) (t_l 14 a_alen)) (t_n 18 (t_l 15 (a_ic 51 (fun x y => decide (y ≤ x)))) (t_l 18 (a_iload 1 2)))) (t_n 22 (t_n 20 (t_l 19 (a_aload 1 0)) (t_l 20 (a_iload 2 4))) (t_n 23 (t_l 22 (a_ild 0)) (t_l 23 (a_inv false 196 2 none)))))) (t_n 38 (t_n 32 (t_n 30 (t_n 29 (t_l 26 (a_if 45 (fun x => !decide (x = 0)))) (t_l 29 (a_iload 1 3))) (t_n 31 (t_l 30 (a_aload 1 0)) (t_l 31 a_alen))) (t_n 36 (t_n 35 (t_l 32 (a_ic 45 (fun x y => decide (y ≤ x)))) (t_l 35 (a_aload 1 0))) (t_n 37 (t_l 36 (a_iload 1 3)) (t_l 37 (a_aload 1 0))))) (t_n 45 (t_n 41 (t_n 40 (t_l 38 (a_iload 2 4)) (t_l 40 (a_ild 0))) (t_n 42 (t_l 41 (a_ist 0)) (t_l 42 (a_iinc 5 3 1)))) (t_n 51 (t_n 48 (t_l 45 (a_iinc 5 4 1)) (t_l 48 (a_goto 5))) (t_n 52 (t_l 51 (a_iload 1 3)) (t_l 52 a_iret))))))
set_option maxRecDepth 100000 in
theorem k_X4_without (sc : Nat × (Nat → Int32)) (d : Nat) : ∀ pc, ev_Ok cX4_without 5 [] RX4 lw_g lw_n (lw_q sc) vwCl false (ev_CO mt lw_g lw_n (lw_q sc) vwCl d) pc (g_X4_without pc) := (ok_t_n (ok_t_n (ok_t_n (ok_t_n (ok_t_n (ok_t_l (ok_iconst dX4_without_0 rfl)) (ok_t_l (ok_istore_n dX4_without_1 rfl))) (ok_t_n (ok_t_l (ok_iconst dX4_without_2 rfl)) (ok_t_l (ok_istore dX4_without_3)))) (ok_t_n (ok_t_n (ok_t_l (ok_iload dX4_without_5)) (ok_t_l (ok_iload_n dX4_without_7 rfl))) (ok_t_n (ok_t_l (ok_icmp_ge dX4_without_8 rfl)) (ok_t_l (ok_iload dX4_without_11))))) (ok_t_n (ok_t_n (ok_t_n (ok_t_l (ok_aload_n dX4_without_13 rfl)) (ok_t_l (ok_arraylength dX4_without_14))) (ok_t_n (ok_t_l (ok_icmp_ge dX4_without_15 rfl)) (ok_t_l (ok_iload_n dX4_without_18 rfl)))) (ok_t_n (ok_t_n (ok_t_l (ok_aload_n dX4_without_19 rfl)) (ok_t_l (ok_iload dX4_without_20))) (ok_t_n (ok_t_l (ok_iaload dX4_without_22)) (ok_t_l (ok_inv (run_SN (y := 196) (n := 2) dX4_without_23 cz_196 gdG cc_196 ci_196 nst_13 cm_196 cd_196 cl_196))))))) (ok_t_n (ok_t_n (ok_t_n (ok_t_n (ok_t_l (ok_if_ne dX4_without_26 rfl)) (ok_t_l (ok_iload_n dX4_without_29 rfl))) (ok_t_n (ok_t_l (ok_aload_n dX4_without_30 rfl)) (ok_t_l (ok_arraylength dX4_without_31)))) (ok_t_n (ok_t_n (ok_t_l (ok_icmp_ge dX4_without_32 rfl)) (ok_t_l (ok_aload_n dX4_without_35 rfl))) (ok_t_n (ok_t_l (ok_iload_n dX4_without_36 rfl)) (ok_t_l (ok_aload_n dX4_without_37 rfl))))) (ok_t_n (ok_t_n (ok_t_n (ok_t_l (ok_iload dX4_without_38)) (ok_t_l (ok_iaload dX4_without_40))) (ok_t_n (ok_t_l (ok_iastore dX4_without_41)) (ok_t_l (ok_iinc dX4_without_42 rfl)))) (ok_t_n (ok_t_n (ok_t_l (ok_iinc dX4_without_45 rfl)) (ok_t_l (ok_goto dX4_without_48 rfl))) (ok_t_n (ok_t_l (ok_iload_n dX4_without_51 rfl)) (ok_t_l (ok_ireturn dX4_without_52)))))))
