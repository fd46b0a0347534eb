theorem dX12_take_0 : decode cX12_take 0 = .ok (.iconst 1, 1) := by decide +kernel
theorem dX12_take_1 : decode cX12_take 1 = .ok (.istore 4, 2) := by decide +kernel
theorem dX12_take_3 : decode cX12_take 3 = .ok (.iload 4, 2) := by decide +kernel
theorem dX12_take_5 : decode cX12_take 5 = .ok (.ifCond .eq 154, 3) := by decide +kernel
theorem dX12_take_8 : decode cX12_take 8 = .ok (.iconst 0, 1) := by decide +kernel
theorem dX12_take_9 : decode cX12_take 9 = .ok (.istore 4, 2) := by decide +kernel
theorem dX12_take_11 : decode cX12_take 11 = .ok (.iload_n 1, 1) := by decide +kernel
theorem dX12_take_12 : decode cX12_take 12 = .ok (.istore 5, 2) := by decide +kernel
theorem dX12_take_14 : decode cX12_take 14 = .ok (.iload 5, 2) := by decide +kernel
theorem dX12_take_16 : decode cX12_take 16 = .ok (.iload_n 2, 1) := by decide +kernel
theorem dX12_take_17 : decode cX12_take 17 = .ok (.if_icmp .ge 139, 3) := by decide +kernel
theorem dX12_take_20 : decode cX12_take 20 = .ok (.iconst 0, 1) := by decide +kernel
theorem dX12_take_21 : decode cX12_take 21 = .ok (.istore 6, 2) := by decide +kernel
theorem dX12_take_23 : decode cX12_take 23 = .ok (.iload 6, 2) := by decide +kernel
theorem dX12_take_25 : decode cX12_take 25 = .ok (.aload_n 0, 1) := by decide +kernel
theorem dX12_take_26 : decode cX12_take 26 = .ok (.getfield 3, 3) := by decide +kernel
theorem dX12_take_29 : decode cX12_take 29 = .ok (.getfield 103, 3) := by decide +kernel
theorem dX12_take_32 : decode cX12_take 32 = .ok (.if_icmp .ge 118, 3) := by decide +kernel
theorem dX12_take_35 : decode cX12_take 35 = .ok (.aload_n 0, 1) := by decide +kernel
theorem dX12_take_36 : decode cX12_take 36 = .ok (.getfield 3, 3) := by decide +kernel
theorem dX12_take_39 : decode cX12_take 39 = .ok (.getfield 106, 3) := by decide +kernel
theorem dX12_take_42 : decode cX12_take 42 = .ok (.iload 5, 2) := by decide +kernel
theorem dX12_take_44 : decode cX12_take 44 = .ok (.iaload, 1) := by decide +kernel
theorem dX12_take_45 : decode cX12_take 45 = .ok (.iload 6, 2) := by decide +kernel
theorem dX12_take_47 : decode cX12_take 47 = .ok (.invokestatic 109, 3) := by decide +kernel
theorem dX12_take_50 : decode cX12_take 50 = .ok (.ifCond .eq 94, 3) := by decide +kernel
theorem dX12_take_53 : decode cX12_take 53 = .ok (.iload 6, 2) := by decide +kernel
theorem dX12_take_55 : decode cX12_take 55 = .ok (.iload_n 3, 1) := by decide +kernel
theorem dX12_take_56 : decode cX12_take 56 = .ok (.if_icmp .eq 88, 3) := by decide +kernel
theorem dX12_take_59 : decode cX12_take 59 = .ok (.aload_n 0, 1) := by decide +kernel
theorem dX12_take_60 : decode cX12_take 60 = .ok (.getfield 19, 3) := by decide +kernel
theorem dX12_take_63 : decode cX12_take 63 = .ok (.iload 6, 2) := by decide +kernel
theorem dX12_take_65 : decode cX12_take 65 = .ok (.iaload, 1) := by decide +kernel
theorem dX12_take_66 : decode cX12_take 66 = .ok (.iconst (-1), 1) := by decide +kernel
theorem dX12_take_67 : decode cX12_take 67 = .ok (.if_icmp .ne 77, 3) := by decide +kernel
theorem dX12_take_70 : decode cX12_take 70 = .ok (.aload_n 0, 1) := by decide +kernel
theorem dX12_take_71 : decode cX12_take 71 = .ok (.getfield 3, 3) := by decide +kernel
theorem dX12_take_74 : decode cX12_take 74 = .ok (.getfield 100, 3) := by decide +kernel
theorem dX12_take_77 : decode cX12_take 77 = .ok (.iload 5, 2) := by decide +kernel
theorem dX12_take_79 : decode cX12_take 79 = .ok (.iaload, 1) := by decide +kernel
theorem dX12_take_80 : decode cX12_take 80 = .ok (.ifCond .le 15, 3) := by decide +kernel
theorem dX12_take_83 : decode cX12_take 83 = .ok (.aload_n 0, 1) := by decide +kernel
theorem dX12_take_84 : decode cX12_take 84 = .ok (.iload 6, 2) := by decide +kernel
theorem dX12_take_86 : decode cX12_take 86 = .ok (.invokevirtual 113, 3) := by decide +kernel
theorem dX12_take_89 : decode cX12_take 89 = .ok (.ifCond .ne 6, 3) := by decide +kernel
theorem dX12_take_92 : decode cX12_take 92 = .ok (.goto 52, 3) := by decide +kernel
theorem dX12_take_95 : decode cX12_take 95 = .ok (.aload_n 0, 1) := by decide +kernel
theorem dX12_take_96 : decode cX12_take 96 = .ok (.getfield 19, 3) := by decide +kernel
theorem dX12_take_99 : decode cX12_take 99 = .ok (.iload 6, 2) := by decide +kernel
theorem dX12_take_101 : decode cX12_take 101 = .ok (.aload_n 0, 1) := by decide +kernel
theorem dX12_take_102 : decode cX12_take 102 = .ok (.getfield 117, 3) := by decide +kernel
theorem dX12_take_105 : decode cX12_take 105 = .ok (.iastore, 1) := by decide +kernel
theorem dX12_take_106 : decode cX12_take 106 = .ok (.aload_n 0, 1) := by decide +kernel
theorem dX12_take_107 : decode cX12_take 107 = .ok (.getfield 15, 3) := by decide +kernel
theorem dX12_take_110 : decode cX12_take 110 = .ok (.aload_n 0, 1) := by decide +kernel
theorem dX12_take_111 : decode cX12_take 111 = .ok (.dup, 1) := by decide +kernel
theorem dX12_take_112 : decode cX12_take 112 = .ok (.getfield 117, 3) := by decide +kernel
theorem dX12_take_115 : decode cX12_take 115 = .ok (.dup_x1, 1) := by decide +kernel
theorem dX12_take_116 : decode cX12_take 116 = .ok (.iconst 1, 1) := by decide +kernel
theorem dX12_take_117 : decode cX12_take 117 = .ok (.iadd, 1) := by decide +kernel
theorem dX12_take_118 : decode cX12_take 118 = .ok (.putfield 117, 3) := by decide +kernel
theorem dX12_take_121 : decode cX12_take 121 = .ok (.iload 6, 2) := by decide +kernel
theorem dX12_take_123 : decode cX12_take 123 = .ok (.iastore, 1) := by decide +kernel
theorem dX12_take_124 : decode cX12_take 124 = .ok (.aload_n 0, 1) := by decide +kernel
theorem dX12_take_125 : decode cX12_take 125 = .ok (.getfield 3, 3) := by decide +kernel
theorem dX12_take_128 : decode cX12_take 128 = .ok (.getfield 100, 3) := by decide +kernel
theorem dX12_take_131 : decode cX12_take 131 = .ok (.iload 5, 2) := by decide +kernel
theorem dX12_take_133 : decode cX12_take 133 = .ok (.iaload, 1) := by decide +kernel
theorem dX12_take_134 : decode cX12_take 134 = .ok (.ifCond .le 7, 3) := by decide +kernel
theorem dX12_take_137 : decode cX12_take 137 = .ok (.iconst 1, 1) := by decide +kernel
theorem dX12_take_138 : decode cX12_take 138 = .ok (.goto 4, 3) := by decide +kernel
theorem dX12_take_141 : decode cX12_take 141 = .ok (.iconst 0, 1) := by decide +kernel
theorem dX12_take_142 : decode cX12_take 142 = .ok (.istore 4, 2) := by decide +kernel
theorem dX12_take_144 : decode cX12_take 144 = .ok (.iinc 6 1, 3) := by decide +kernel
theorem dX12_take_147 : decode cX12_take 147 = .ok (.goto (-124), 3) := by decide +kernel
theorem dX12_take_150 : decode cX12_take 150 = .ok (.iinc 5 1, 3) := by decide +kernel
theorem dX12_take_153 : decode cX12_take 153 = .ok (.goto (-139), 3) := by decide +kernel
theorem dX12_take_156 : decode cX12_take 156 = .ok (.goto (-153), 3) := by decide +kernel
theorem dX12_take_159 : decode cX12_take 159 = .ok (.return_, 1) := by decide +kernel
def g_X12_take : Nat → EA := (t_n 79 (t_n 36 (t_n 16 (t_n 8 (t_n 3 (t_n 1 (t_l 0 (a_push 1 (.int 1))) (t_l 1 (a_istore 7 2 4))) (t_n 5 (t_l 3 (a_iload 2 4)) (t_l 5 (a_if 159 (fun x => decide (x = 0)))))) (t_n 11 (t_n 9 (t_l 8 (a_push 1 (.int 0))) (t_l 9 (a_istore 7 2 4))) (t_n 12 (t_l 11 (a_iload 1 1)) (t_n 14 (t_l 12 (a_istore 7 2 5)) (t_l 14 (a_iload 2 5)))))) (t_n 25 (t_n 20 (t_n 17 (t_l 16 (a_iload 1 2)) (t_l 17 (a_ic 156 (fun x y => decide (y ≤ x))))) (t_n 21 (t_l 20 (a_push 1 (.int 0))) (t_n 23 (t_l 21 (a_istore 7 2 6)) (t_l 23 (a_iload 2 6))))) (t_n 29 (t_n 26 (t_l 25 (a_aload 1 0)) (t_l 26 (a_getf 12 24))) (t_n 32 (t_l 29 (a_getf 13 1)) (t_n 35 (t_l 32 (a_ic 150 (fun x y => decide (y ≤ x)))) (t_l 35 (a_aload 1 0))))))) (t_n 59 (t_n 47 (t_n 42 (t_n 39 (t_l 36 (a_getf 12 24)) (t_l 39 (a_getf 13 13))) (t_n 44 (t_l 42 (a_iload 2 5)) (t_n 45 (t_l 44 (a_ild 0)) (t_l 45 (a_iload 2 6))))) (t_n 53 (t_n 50 (t_l 47 (a_inv false 231 2 none)) (t_l 50 (a_if 144 (fun x => decide (x = 0))))) (t_n 55 (t_l 53 (a_iload 2 6)) (t_n 56 (t_l 55 (a_iload 1 3)) (t_l 56 (a_ic 144 (fun x y => decide (x = y)))))))) (t_n 67 (t_n 63 (t_n 60 (t_l 59 (a_aload 1 0)) (t_l 60 (a_getf 12 6))) (t_n 65 (t_l 63 (a_iload 2 6)) (t_n 66 (t_l 65 (a_ild 0)) (t_l 66 (a_push 1 (.int (-1))))))) (t_n 71 (t_n 70 (t_l 67 (a_ic 144 (fun x y => !decide (x = y)))) (t_l 70 (a_aload 1 0))) (t_n 74 (t_l 71 (a_getf 12 24)) (t_n 77 (t_l 74 (a_getf 13 14)) (t_l 77 (a_iload 2 5)))))))) (t_n 117 (t_n 101 (t_n 89 (t_n 83 (t_n 80 (t_l 79 (a_ild 0)) (t_l 80 (a_if 95 (fun x => decide (x ≤ 0))))) (t_n 84 (t_l 83 (a_aload 1 0)) (t_n 86 (t_l 84 (a_iload 2 6)) (t_l 86 (a_inv true 206 2 (some 12)))))) (t_n 95 (t_n 92 (t_l 89 (a_if 95 (fun x => !decide (x = 0)))) (t_l 92 (a_goto 144))) (t_n 96 (t_l 95 (a_aload 1 0)) (t_n 99 (t_l 96 (a_getf 12 6)) (t_l 99 (a_iload 2 6)))))) (t_n 110 (t_n 105 (t_n 102 (t_l 101 (a_aload 1 0)) (t_l 102 (a_getf 12 4))) (t_n 106 (t_l 105 (a_ist 0)) (t_n 107 (t_l 106 (a_aload 1 0)) (t_l 107 (a_getf 12 5))))) (t_n 112 (t_n 111 (t_l 110 (a_aload 1 0)) (t_l 111 a_dup)) (t_n 115 (t_l 112 (a_getf 12 4)) (t_n 116 (t_l 115 a_dupx1) (t_l 116 (a_push 1 (.int 1)))))))) (t_n 137 (t_n 125 (t_n 121 (t_n 118 (t_l 117 (a_ii 1 (fun x y => x + y))) (t_l 118 (a_putf 0 12 4))) (t_n 123 (t_l 121 (a_iload 2 6)) (t_n 124 (t_l 123 (a_ist 0)) (t_l 124 (a_aload 1 0))))) (t_n 131 (t_n 128 (t_l 125 (a_getf 12 24)) (t_l 128 (a_getf 13 14))) (t_n 133 (t_l 131 (a_iload 2 5)) (t_n 134 (t_l 133 (a_ild 0)) (t_l 134 (a_if 141 (fun x => decide (x ≤ 0)))))))) (t_n 147 (t_n 141 (t_n 138 (t_l 137 (a_push 1 (.int 1))) (t_l 138 (a_goto 142))) (t_n 142 (t_l 141 (a_push 1 (.int 0))) (t_n 144 (t_l 142 (a_istore 7 2 4)) (t_l 144 (a_iinc 7 6 1))))) (t_n 153 (t_n 150 (t_l 147 (a_goto 23)) (t_l 150 (a_iinc 7 5 1))) (t_n 156 (t_l 153 (a_goto 14)) (t_n 159 (t_l 156 (a_goto 3)) (t_l 159 a_vret))))))))
set_option maxRecDepth 100000 in
theorem k_X12_take (d : Nat) : ∀ pc, ev_Ok cX12_take 7 [] RX12 lw_g lw_n lw_q vwCl false (ev_CO mt lw_g lw_n lw_q vwCl d) pc (g_X12_take pc) := (ok_t_n (ok_t_n (ok_t_n (ok_t_n (ok_t_n (ok_t_n (ok_t_l (ok_iconst dX12_take_0 rfl)) (ok_t_l (ok_istore dX12_take_1))) (ok_t_n (ok_t_l (ok_iload dX12_take_3)) (ok_t_l (ok_if_eq dX12_take_5 rfl)))) (ok_t_n (ok_t_n (ok_t_l (ok_iconst dX12_take_8 rfl)) (ok_t_l (ok_istore dX12_take_9))) (ok_t_n (ok_t_l (ok_iload_n dX12_take_11 rfl)) (ok_t_n (ok_t_l (ok_istore dX12_take_12)) (ok_t_l (ok_iload dX12_take_14)))))) (ok_t_n (ok_t_n (ok_t_n (ok_t_l (ok_iload_n dX12_take_16 rfl)) (ok_t_l (ok_icmp_ge dX12_take_17 rfl))) (ok_t_n (ok_t_l (ok_iconst dX12_take_20 rfl)) (ok_t_n (ok_t_l (ok_istore dX12_take_21)) (ok_t_l (ok_iload dX12_take_23))))) (ok_t_n (ok_t_n (ok_t_l (ok_aload_n dX12_take_25 rfl)) (ok_t_l (ok_getfield dX12_take_26 (ci := 12) (kf := 24) rfl inGX12 (by decide) w_1891))) (ok_t_n (ok_t_l (ok_getfieldN dX12_take_29 (ci := 13) (kf := 1) rfl inGX13 (by decide) (nst_30))) (ok_t_n (ok_t_l (ok_icmp_ge dX12_take_32 rfl)) (ok_t_l (ok_aload_n dX12_take_35 rfl))))))) (ok_t_n (ok_t_n (ok_t_n (ok_t_n (ok_t_l (ok_getfield dX12_take_36 (ci := 12) (kf := 24) rfl inGX12 (by decide) w_1891)) (ok_t_l (ok_getfieldN dX12_take_39 (ci := 13) (kf := 13) rfl inGX13 (by decide) (nst_42)))) (ok_t_n (ok_t_l (ok_iload dX12_take_42)) (ok_t_n (ok_t_l (ok_iaload dX12_take_44)) (ok_t_l (ok_iload dX12_take_45))))) (ok_t_n (ok_t_n (ok_t_l (ok_inv (run_SN (y := 231) (n := 2) dX12_take_47 cz_231 gdG cc_231 ci_231 nst_44 cm_231 cd_231 cl_231))) (ok_t_l (ok_if_eq dX12_take_50 rfl))) (ok_t_n (ok_t_l (ok_iload dX12_take_53)) (ok_t_n (ok_t_l (ok_iload_n dX12_take_55 rfl)) (ok_t_l (ok_icmp_eq dX12_take_56 rfl)))))) (ok_t_n (ok_t_n (ok_t_n (ok_t_l (ok_aload_n dX12_take_59 rfl)) (ok_t_l (ok_getfield dX12_take_60 (ci := 12) (kf := 6) rfl inGX12 (by decide) w_1861))) (ok_t_n (ok_t_l (ok_iload dX12_take_63)) (ok_t_n (ok_t_l (ok_iaload dX12_take_65)) (ok_t_l (ok_iconst dX12_take_66 rfl))))) (ok_t_n (ok_t_n (ok_t_l (ok_icmp_ne dX12_take_67 rfl)) (ok_t_l (ok_aload_n dX12_take_70 rfl))) (ok_t_n (ok_t_l (ok_getfield dX12_take_71 (ci := 12) (kf := 24) rfl inGX12 (by decide) w_1891)) (ok_t_n (ok_t_l (ok_getfieldN dX12_take_74 (ci := 13) (kf := 14) rfl inGX13 (by decide) (nst_43))) (ok_t_l (ok_iload dX12_take_77)))))))) (ok_t_n (ok_t_n (ok_t_n (ok_t_n (ok_t_n (ok_t_l (ok_iaload dX12_take_79)) (ok_t_l (ok_if_le dX12_take_80 rfl))) (ok_t_n (ok_t_l (ok_aload_n dX12_take_83 rfl)) (ok_t_n (ok_t_l (ok_iload dX12_take_84)) (ok_t_l (ok_inv (run_V (y := 206) (n := 1) (ci := 12) dX12_take_86 cz_206 gdG cc_206 ci_206 w_1779 cm_206 cs_206 cd_206 cl_206 rfl rfl)))))) (ok_t_n (ok_t_n (ok_t_l (ok_if_ne dX12_take_89 rfl)) (ok_t_l (ok_goto dX12_take_92 rfl))) (ok_t_n (ok_t_l (ok_aload_n dX12_take_95 rfl)) (ok_t_n (ok_t_l (ok_getfield dX12_take_96 (ci := 12) (kf := 6) rfl inGX12 (by decide) w_1861)) (ok_t_l (ok_iload dX12_take_99)))))) (ok_t_n (ok_t_n (ok_t_n (ok_t_l (ok_aload_n dX12_take_101 rfl)) (ok_t_l (ok_getfield dX12_take_102 (ci := 12) (kf := 4) rfl inGX12 (by decide) w_1858))) (ok_t_n (ok_t_l (ok_iastore dX12_take_105)) (ok_t_n (ok_t_l (ok_aload_n dX12_take_106 rfl)) (ok_t_l (ok_getfield dX12_take_107 (ci := 12) (kf := 5) rfl inGX12 (by decide) w_1860))))) (ok_t_n (ok_t_n (ok_t_l (ok_aload_n dX12_take_110 rfl)) (ok_t_l (ok_dup dX12_take_111))) (ok_t_n (ok_t_l (ok_getfield dX12_take_112 (ci := 12) (kf := 4) rfl inGX12 (by decide) w_1858)) (ok_t_n (ok_t_l (ok_dup_x1 dX12_take_115)) (ok_t_l (ok_iconst dX12_take_116 rfl))))))) (ok_t_n (ok_t_n (ok_t_n (ok_t_n (ok_t_l (ok_iadd dX12_take_117)) (ok_t_l (ok_putfield dX12_take_118 (ci := 12) (kf := 4) rfl inGX12 (by decide) tyX12_ok nmX12 rfl w_1858 rfl))) (ok_t_n (ok_t_l (ok_iload dX12_take_121)) (ok_t_n (ok_t_l (ok_iastore dX12_take_123)) (ok_t_l (ok_aload_n dX12_take_124 rfl))))) (ok_t_n (ok_t_n (ok_t_l (ok_getfield dX12_take_125 (ci := 12) (kf := 24) rfl inGX12 (by decide) w_1891)) (ok_t_l (ok_getfieldN dX12_take_128 (ci := 13) (kf := 14) rfl inGX13 (by decide) (nst_43)))) (ok_t_n (ok_t_l (ok_iload dX12_take_131)) (ok_t_n (ok_t_l (ok_iaload dX12_take_133)) (ok_t_l (ok_if_le dX12_take_134 rfl)))))) (ok_t_n (ok_t_n (ok_t_n (ok_t_l (ok_iconst dX12_take_137 rfl)) (ok_t_l (ok_goto dX12_take_138 rfl))) (ok_t_n (ok_t_l (ok_iconst dX12_take_141 rfl)) (ok_t_n (ok_t_l (ok_istore dX12_take_142)) (ok_t_l (ok_iinc dX12_take_144 rfl))))) (ok_t_n (ok_t_n (ok_t_l (ok_goto dX12_take_147 rfl)) (ok_t_l (ok_iinc dX12_take_150 rfl))) (ok_t_n (ok_t_l (ok_goto dX12_take_153 rfl)) (ok_t_n (ok_t_l (ok_goto dX12_take_156 rfl)) (ok_t_l (ok_vreturn dX12_take_159)))))))))
theorem dX12_isDrawn_0 : decode cX12_isDrawn 0 = .ok (.iconst 0, 1) := by decide +kernel
theorem dX12_isDrawn_1 : decode cX12_isDrawn 1 = .ok (.istore_n 2, 1) := by decide +kernel
theorem dX12_isDrawn_2 : decode cX12_isDrawn 2 = .ok (.iload_n 2, 1) := by decide +kernel
theorem dX12_isDrawn_3 : decode cX12_isDrawn 3 = .ok (.bipush 20, 2) := by decide +kernel
theorem dX12_isDrawn_5 : decode cX12_isDrawn 5 = .ok (.if_icmp .ge 55, 3) := by decide +kernel
theorem dX12_isDrawn_8 : decode cX12_isDrawn 8 = .ok (.aload_n 0, 1) := by decide +kernel
theorem dX12_isDrawn_9 : decode cX12_isDrawn 9 = .ok (.getfield 3, 3) := by decide +kernel
theorem dX12_isDrawn_12 : decode cX12_isDrawn 12 = .ok (.getfield 120, 3) := by decide +kernel
theorem dX12_isDrawn_15 : decode cX12_isDrawn 15 = .ok (.iload_n 1, 1) := by decide +kernel
theorem dX12_isDrawn_16 : decode cX12_isDrawn 16 = .ok (.bipush 20, 2) := by decide +kernel
theorem dX12_isDrawn_18 : decode cX12_isDrawn 18 = .ok (.imul, 1) := by decide +kernel
theorem dX12_isDrawn_19 : decode cX12_isDrawn 19 = .ok (.iload_n 2, 1) := by decide +kernel
theorem dX12_isDrawn_20 : decode cX12_isDrawn 20 = .ok (.iadd, 1) := by decide +kernel
theorem dX12_isDrawn_21 : decode cX12_isDrawn 21 = .ok (.iaload, 1) := by decide +kernel
theorem dX12_isDrawn_22 : decode cX12_isDrawn 22 = .ok (.iconst 1, 1) := by decide +kernel
theorem dX12_isDrawn_23 : decode cX12_isDrawn 23 = .ok (.if_icmp .eq 21, 3) := by decide +kernel
theorem dX12_isDrawn_26 : decode cX12_isDrawn 26 = .ok (.aload_n 0, 1) := by decide +kernel
theorem dX12_isDrawn_27 : decode cX12_isDrawn 27 = .ok (.getfield 3, 3) := by decide +kernel
theorem dX12_isDrawn_30 : decode cX12_isDrawn 30 = .ok (.getfield 120, 3) := by decide +kernel
theorem dX12_isDrawn_33 : decode cX12_isDrawn 33 = .ok (.iload_n 1, 1) := by decide +kernel
theorem dX12_isDrawn_34 : decode cX12_isDrawn 34 = .ok (.bipush 20, 2) := by decide +kernel
theorem dX12_isDrawn_36 : decode cX12_isDrawn 36 = .ok (.imul, 1) := by decide +kernel
theorem dX12_isDrawn_37 : decode cX12_isDrawn 37 = .ok (.iload_n 2, 1) := by decide +kernel
theorem dX12_isDrawn_38 : decode cX12_isDrawn 38 = .ok (.iadd, 1) := by decide +kernel
theorem dX12_isDrawn_39 : decode cX12_isDrawn 39 = .ok (.iaload, 1) := by decide +kernel
theorem dX12_isDrawn_40 : decode cX12_isDrawn 40 = .ok (.iconst 3, 1) := by decide +kernel
theorem dX12_isDrawn_41 : decode cX12_isDrawn 41 = .ok (.if_icmp .ne 13, 3) := by decide +kernel
theorem dX12_isDrawn_44 : decode cX12_isDrawn 44 = .ok (.aload_n 0, 1) := by decide +kernel
theorem dX12_isDrawn_45 : decode cX12_isDrawn 45 = .ok (.iload_n 2, 1) := by decide +kernel
theorem dX12_isDrawn_46 : decode cX12_isDrawn 46 = .ok (.invokevirtual 123, 3) := by decide +kernel
theorem dX12_isDrawn_49 : decode cX12_isDrawn 49 = .ok (.ifCond .eq 5, 3) := by decide +kernel
theorem dX12_isDrawn_52 : decode cX12_isDrawn 52 = .ok (.iconst 1, 1) := by decide +kernel
theorem dX12_isDrawn_53 : decode cX12_isDrawn 53 = .ok (.ireturn, 1) := by decide +kernel
theorem dX12_isDrawn_54 : decode cX12_isDrawn 54 = .ok (.iinc 2 1, 3) := by decide +kernel
theorem dX12_isDrawn_57 : decode cX12_isDrawn 57 = .ok (.goto (-55), 3) := by decide +kernel
theorem dX12_isDrawn_60 : decode cX12_isDrawn 60 = .ok (.iconst 0, 1) := by decide +kernel
theorem dX12_isDrawn_61 : decode cX12_isDrawn 61 = .ok (.ireturn, 1) := by decide +kernel
def g_X12_isDrawn : Nat → EA := (t_n 30 (t_n 16 (t_n 5 (t_n 2 (t_n 1 (t_l 0 (a_push 1 (.int 0))) (t_l 1 (a_istore 3 1 2))) (t_n 3 (t_l 2 (a_iload 1 2)) (t_l 3 (a_push 2 (.int 20))))) (t_n 9 (t_n 8 (t_l 5 (a_ic 60 (fun x y => decide (y ≤ x)))) (t_l 8 (a_aload 1 0))) (t_n 12 (t_l 9 (a_getf 12 24)) (t_n 15 (t_l 12 (a_getf 13 9)) (t_l 15 (a_iload 1 1)))))) (t_n 21 (t_n 19 (t_n 18 (t_l 16 (a_push 2 (.int 20))) (t_l 18 (a_ii 1 (fun x y => x * y)))) (t_n 20 (t_l 19 (a_iload 1 2)) (t_l 20 (a_ii 1 (fun x y => x + y))))) (t_n 23 (t_n 22 (t_l 21 (a_ild 0)) (t_l 22 (a_push 1 (.int 1)))) (t_n 26 (t_l 23 (a_ic 44 (fun x y => decide (x = y)))) (t_n 27 (t_l 26 (a_aload 1 0)) (t_l 27 (a_getf 12 24))))))) (t_n 44 (t_n 37 (t_n 34 (t_n 33 (t_l 30 (a_getf 13 9)) (t_l 33 (a_iload 1 1))) (t_n 36 (t_l 34 (a_push 2 (.int 20))) (t_l 36 (a_ii 1 (fun x y => x * y))))) (t_n 39 (t_n 38 (t_l 37 (a_iload 1 2)) (t_l 38 (a_ii 1 (fun x y => x + y)))) (t_n 40 (t_l 39 (a_ild 0)) (t_n 41 (t_l 40 (a_push 1 (.int 3))) (t_l 41 (a_ic 54 (fun x y => !decide (x = y)))))))) (t_n 53 (t_n 46 (t_n 45 (t_l 44 (a_aload 1 0)) (t_l 45 (a_iload 1 2))) (t_n 49 (t_l 46 (a_inv true 207 2 (some 12))) (t_n 52 (t_l 49 (a_if 54 (fun x => decide (x = 0)))) (t_l 52 (a_push 1 (.int 1)))))) (t_n 57 (t_n 54 (t_l 53 a_iret) (t_l 54 (a_iinc 3 2 1))) (t_n 60 (t_l 57 (a_goto 2)) (t_n 61 (t_l 60 (a_push 1 (.int 0))) (t_l 61 a_iret)))))))
set_option maxRecDepth 100000 in
theorem k_X12_isDrawn (d : Nat) : ∀ pc, ev_Ok cX12_isDrawn 3 [] RX12 lw_g lw_n lw_q vwCl false (ev_CO mt lw_g lw_n lw_q vwCl d) pc (g_X12_isDrawn pc) := (ok_t_n (ok_t_n (ok_t_n (ok_t_n (ok_t_n (ok_t_l (ok_iconst dX12_isDrawn_0 rfl)) (ok_t_l (ok_istore_n dX12_isDrawn_1 rfl))) (ok_t_n (ok_t_l (ok_iload_n dX12_isDrawn_2 rfl)) (ok_t_l (ok_bipush dX12_isDrawn_3 rfl)))) (ok_t_n (ok_t_n (ok_t_l (ok_icmp_ge dX12_isDrawn_5 rfl)) (ok_t_l (ok_aload_n dX12_isDrawn_8 rfl))) (ok_t_n (ok_t_l (ok_getfield dX12_isDrawn_9 (ci := 12) (kf := 24) rfl inGX12 (by decide) w_1891)) (ok_t_n (ok_t_l (ok_getfieldN dX12_isDrawn_12 (ci := 13) (kf := 9) rfl inGX13 (by decide) (nst_38))) (ok_t_l (ok_iload_n dX12_isDrawn_15 rfl)))))) (ok_t_n (ok_t_n (ok_t_n (ok_t_l (ok_bipush dX12_isDrawn_16 rfl)) (ok_t_l (ok_imul dX12_isDrawn_18))) (ok_t_n (ok_t_l (ok_iload_n dX12_isDrawn_19 rfl)) (ok_t_l (ok_iadd dX12_isDrawn_20)))) (ok_t_n (ok_t_n (ok_t_l (ok_iaload dX12_isDrawn_21)) (ok_t_l (ok_iconst dX12_isDrawn_22 rfl))) (ok_t_n (ok_t_l (ok_icmp_eq dX12_isDrawn_23 rfl)) (ok_t_n (ok_t_l (ok_aload_n dX12_isDrawn_26 rfl)) (ok_t_l (ok_getfield dX12_isDrawn_27 (ci := 12) (kf := 24) rfl inGX12 (by decide) w_1891))))))) (ok_t_n (ok_t_n (ok_t_n (ok_t_n (ok_t_l (ok_getfieldN dX12_isDrawn_30 (ci := 13) (kf := 9) rfl inGX13 (by decide) (nst_38))) (ok_t_l (ok_iload_n dX12_isDrawn_33 rfl))) (ok_t_n (ok_t_l (ok_bipush dX12_isDrawn_34 rfl)) (ok_t_l (ok_imul dX12_isDrawn_36)))) (ok_t_n (ok_t_n (ok_t_l (ok_iload_n dX12_isDrawn_37 rfl)) (ok_t_l (ok_iadd dX12_isDrawn_38))) (ok_t_n (ok_t_l (ok_iaload dX12_isDrawn_39)) (ok_t_n (ok_t_l (ok_iconst dX12_isDrawn_40 rfl)) (ok_t_l (ok_icmp_ne dX12_isDrawn_41 rfl)))))) (ok_t_n (ok_t_n (ok_t_n (ok_t_l (ok_aload_n dX12_isDrawn_44 rfl)) (ok_t_l (ok_iload_n dX12_isDrawn_45 rfl))) (ok_t_n (ok_t_l (ok_inv (run_V (y := 207) (n := 1) (ci := 12) dX12_isDrawn_46 cz_207 gdG cc_207 ci_207 w_1783 cm_207 cs_207 cd_207 cl_207 rfl rfl))) (ok_t_n (ok_t_l (ok_if_eq dX12_isDrawn_49 rfl)) (ok_t_l (ok_iconst dX12_isDrawn_52 rfl))))) (ok_t_n (ok_t_n (ok_t_l (ok_ireturn dX12_isDrawn_53)) (ok_t_l (ok_iinc dX12_isDrawn_54 rfl))) (ok_t_n (ok_t_l (ok_goto dX12_isDrawn_57 rfl)) (ok_t_n (ok_t_l (ok_iconst dX12_isDrawn_60 rfl)) (ok_t_l (ok_ireturn dX12_isDrawn_61))))))))
theorem dX12_isWanted_0 : decode cX12_isWanted 0 = .ok (.iconst 0, 1) := by decide +kernel
theorem dX12_isWanted_1 : decode cX12_isWanted 1 = .ok (.istore_n 2, 1) := by decide +kernel
theorem dX12_isWanted_2 : decode cX12_isWanted 2 = .ok (.iload_n 2, 1) := by decide +kernel
theorem dX12_isWanted_3 : decode cX12_isWanted 3 = .ok (.aload_n 0, 1) := by decide +kernel
theorem dX12_isWanted_4 : decode cX12_isWanted 4 = .ok (.getfield 117, 3) := by decide +kernel
theorem dX12_isWanted_7 : decode cX12_isWanted 7 = .ok (.if_icmp .ge 33, 3) := by decide +kernel
theorem dX12_isWanted_10 : decode cX12_isWanted 10 = .ok (.aload_n 0, 1) := by decide +kernel
theorem dX12_isWanted_11 : decode cX12_isWanted 11 = .ok (.getfield 3, 3) := by decide +kernel
theorem dX12_isWanted_14 : decode cX12_isWanted 14 = .ok (.getfield 120, 3) := by decide +kernel
theorem dX12_isWanted_17 : decode cX12_isWanted 17 = .ok (.aload_n 0, 1) := by decide +kernel
theorem dX12_isWanted_18 : decode cX12_isWanted 18 = .ok (.getfield 15, 3) := by decide +kernel
theorem dX12_isWanted_21 : decode cX12_isWanted 21 = .ok (.iload_n 2, 1) := by decide +kernel
theorem dX12_isWanted_22 : decode cX12_isWanted 22 = .ok (.iaload, 1) := by decide +kernel
theorem dX12_isWanted_23 : decode cX12_isWanted 23 = .ok (.bipush 20, 2) := by decide +kernel
theorem dX12_isWanted_25 : decode cX12_isWanted 25 = .ok (.imul, 1) := by decide +kernel
theorem dX12_isWanted_26 : decode cX12_isWanted 26 = .ok (.iload_n 1, 1) := by decide +kernel
theorem dX12_isWanted_27 : decode cX12_isWanted 27 = .ok (.iadd, 1) := by decide +kernel
theorem dX12_isWanted_28 : decode cX12_isWanted 28 = .ok (.iaload, 1) := by decide +kernel
theorem dX12_isWanted_29 : decode cX12_isWanted 29 = .ok (.ifCond .le 5, 3) := by decide +kernel
theorem dX12_isWanted_32 : decode cX12_isWanted 32 = .ok (.iconst 0, 1) := by decide +kernel
theorem dX12_isWanted_33 : decode cX12_isWanted 33 = .ok (.ireturn, 1) := by decide +kernel
theorem dX12_isWanted_34 : decode cX12_isWanted 34 = .ok (.iinc 2 1, 3) := by decide +kernel
theorem dX12_isWanted_37 : decode cX12_isWanted 37 = .ok (.goto (-35), 3) := by decide +kernel
theorem dX12_isWanted_40 : decode cX12_isWanted 40 = .ok (.iload_n 1, 1) := by decide +kernel
theorem dX12_isWanted_41 : decode cX12_isWanted 41 = .ok (.aload_n 0, 1) := by decide +kernel
theorem dX12_isWanted_42 : decode cX12_isWanted 42 = .ok (.getfield 62, 3) := by decide +kernel
theorem dX12_isWanted_45 : decode cX12_isWanted 45 = .ok (.if_icmp .ne 5, 3) := by decide +kernel
theorem dX12_isWanted_48 : decode cX12_isWanted 48 = .ok (.iconst 1, 1) := by decide +kernel
theorem dX12_isWanted_49 : decode cX12_isWanted 49 = .ok (.ireturn, 1) := by decide +kernel
theorem dX12_isWanted_50 : decode cX12_isWanted 50 = .ok (.iconst 0, 1) := by decide +kernel
theorem dX12_isWanted_51 : decode cX12_isWanted 51 = .ok (.istore_n 2, 1) := by decide +kernel
theorem dX12_isWanted_52 : decode cX12_isWanted 52 = .ok (.iload_n 2, 1) := by decide +kernel
theorem dX12_isWanted_53 : decode cX12_isWanted 53 = .ok (.aload_n 0, 1) := by decide +kernel
theorem dX12_isWanted_54 : decode cX12_isWanted 54 = .ok (.getfield 3, 3) := by decide +kernel
theorem dX12_isWanted_57 : decode cX12_isWanted 57 = .ok (.getfield 126, 3) := by decide +kernel
theorem dX12_isWanted_60 : decode cX12_isWanted 60 = .ok (.if_icmp .ge 84, 3) := by decide +kernel
theorem dX12_isWanted_63 : decode cX12_isWanted 63 = .ok (.aload_n 0, 1) := by decide +kernel
theorem dX12_isWanted_64 : decode cX12_isWanted 64 = .ok (.getfield 19, 3) := by decide +kernel
theorem dX12_isWanted_67 : decode cX12_isWanted 67 = .ok (.aload_n 0, 1) := by decide +kernel
theorem dX12_isWanted_68 : decode cX12_isWanted 68 = .ok (.getfield 3, 3) := by decide +kernel
theorem dX12_isWanted_71 : decode cX12_isWanted 71 = .ok (.getfield 129, 3) := by decide +kernel
theorem dX12_isWanted_74 : decode cX12_isWanted 74 = .ok (.iload_n 2, 1) := by decide +kernel
theorem dX12_isWanted_75 : decode cX12_isWanted 75 = .ok (.iaload, 1) := by decide +kernel
theorem dX12_isWanted_76 : decode cX12_isWanted 76 = .ok (.iaload, 1) := by decide +kernel
theorem dX12_isWanted_77 : decode cX12_isWanted 77 = .ok (.iconst (-1), 1) := by decide +kernel
theorem dX12_isWanted_78 : decode cX12_isWanted 78 = .ok (.if_icmp .ne 6, 3) := by decide +kernel
theorem dX12_isWanted_81 : decode cX12_isWanted 81 = .ok (.goto 57, 3) := by decide +kernel
theorem dX12_isWanted_84 : decode cX12_isWanted 84 = .ok (.iconst 0, 1) := by decide +kernel
theorem dX12_isWanted_85 : decode cX12_isWanted 85 = .ok (.istore_n 3, 1) := by decide +kernel
theorem dX12_isWanted_86 : decode cX12_isWanted 86 = .ok (.iload_n 3, 1) := by decide +kernel
theorem dX12_isWanted_87 : decode cX12_isWanted 87 = .ok (.aload_n 0, 1) := by decide +kernel
theorem dX12_isWanted_88 : decode cX12_isWanted 88 = .ok (.getfield 3, 3) := by decide +kernel
theorem dX12_isWanted_91 : decode cX12_isWanted 91 = .ok (.getfield 132, 3) := by decide +kernel
theorem dX12_isWanted_94 : decode cX12_isWanted 94 = .ok (.iload_n 2, 1) := by decide +kernel
theorem dX12_isWanted_95 : decode cX12_isWanted 95 = .ok (.iaload, 1) := by decide +kernel
theorem dX12_isWanted_96 : decode cX12_isWanted 96 = .ok (.if_icmp .ge 42, 3) := by decide +kernel
theorem dX12_isWanted_99 : decode cX12_isWanted 99 = .ok (.aload_n 0, 1) := by decide +kernel
theorem dX12_isWanted_100 : decode cX12_isWanted 100 = .ok (.iload_n 2, 1) := by decide +kernel
theorem dX12_isWanted_101 : decode cX12_isWanted 101 = .ok (.iload_n 3, 1) := by decide +kernel
theorem dX12_isWanted_102 : decode cX12_isWanted 102 = .ok (.invokevirtual 135, 3) := by decide +kernel
theorem dX12_isWanted_105 : decode cX12_isWanted 105 = .ok (.iload_n 1, 1) := by decide +kernel
theorem dX12_isWanted_106 : decode cX12_isWanted 106 = .ok (.if_icmp .ne 26, 3) := by decide +kernel
theorem dX12_isWanted_109 : decode cX12_isWanted 109 = .ok (.aload_n 0, 1) := by decide +kernel
theorem dX12_isWanted_110 : decode cX12_isWanted 110 = .ok (.getfield 3, 3) := by decide +kernel
theorem dX12_isWanted_113 : decode cX12_isWanted 113 = .ok (.getfield 139, 3) := by decide +kernel
theorem dX12_isWanted_116 : decode cX12_isWanted 116 = .ok (.iload_n 2, 1) := by decide +kernel
theorem dX12_isWanted_117 : decode cX12_isWanted 117 = .ok (.bipush 8, 2) := by decide +kernel
theorem dX12_isWanted_119 : decode cX12_isWanted 119 = .ok (.imul, 1) := by decide +kernel
theorem dX12_isWanted_120 : decode cX12_isWanted 120 = .ok (.iload_n 3, 1) := by decide +kernel
theorem dX12_isWanted_121 : decode cX12_isWanted 121 = .ok (.iadd, 1) := by decide +kernel
theorem dX12_isWanted_122 : decode cX12_isWanted 122 = .ok (.iconst 4, 1) := by decide +kernel
theorem dX12_isWanted_123 : decode cX12_isWanted 123 = .ok (.imul, 1) := by decide +kernel
theorem dX12_isWanted_124 : decode cX12_isWanted 124 = .ok (.iconst 3, 1) := by decide +kernel
theorem dX12_isWanted_125 : decode cX12_isWanted 125 = .ok (.iadd, 1) := by decide +kernel
theorem dX12_isWanted_126 : decode cX12_isWanted 126 = .ok (.iaload, 1) := by decide +kernel
theorem dX12_isWanted_127 : decode cX12_isWanted 127 = .ok (.ifCond .ne 5, 3) := by decide +kernel
theorem dX12_isWanted_130 : decode cX12_isWanted 130 = .ok (.iconst 1, 1) := by decide +kernel
theorem dX12_isWanted_131 : decode cX12_isWanted 131 = .ok (.ireturn, 1) := by decide +kernel
theorem dX12_isWanted_132 : decode cX12_isWanted 132 = .ok (.iinc 3 1, 3) := by decide +kernel
theorem dX12_isWanted_135 : decode cX12_isWanted 135 = .ok (.goto (-49), 3) := by decide +kernel
theorem dX12_isWanted_138 : decode cX12_isWanted 138 = .ok (.iinc 2 1, 3) := by decide +kernel
theorem dX12_isWanted_141 : decode cX12_isWanted 141 = .ok (.goto (-89), 3) := by decide +kernel
theorem dX12_isWanted_144 : decode cX12_isWanted 144 = .ok (.iconst 0, 1) := by decide +kernel
theorem dX12_isWanted_145 : decode cX12_isWanted 145 = .ok (.ireturn, 1) := by decide +kernel
def g_X12_isWanted : Nat → EA := (t_n 75 (t_n 34 (t_n 18 (t_n 7 (t_n 2 (t_n 1 (t_l 0 (a_push 1 (.int 0))) (t_l 1 (a_istore 4 1 2))) (t_n 3 (t_l 2 (a_iload 1 2)) (t_n 4 (t_l 3 (a_aload 1 0)) (t_l 4 (a_getf 12 4))))) (t_n 11 (t_n 10 (t_l 7 (a_ic 40 (fun x y => decide (y ≤ x)))) (t_l 10 (a_aload 1 0))) (t_n 14 (t_l 11 (a_getf 12 24)) (t_n 17 (t_l 14 (a_getf 13 9)) (t_l 17 (a_aload 1 0)))))) (t_n 26 (t_n 22 (t_n 21 (t_l 18 (a_getf 12 5)) (t_l 21 (a_iload 1 2))) (t_n 23 (t_l 22 (a_ild 0)) (t_n 25 (t_l 23 (a_push 2 (.int 20))) (t_l 25 (a_ii 1 (fun x y => x * y)))))) (t_n 29 (t_n 27 (t_l 26 (a_iload 1 1)) (t_n 28 (t_l 27 (a_ii 1 (fun x y => x + y))) (t_l 28 (a_ild 0)))) (t_n 32 (t_l 29 (a_if 34 (fun x => decide (x ≤ 0)))) (t_n 33 (t_l 32 (a_push 1 (.int 0))) (t_l 33 a_iret)))))) (t_n 52 (t_n 45 (t_n 40 (t_n 37 (t_l 34 (a_iinc 4 2 1)) (t_l 37 (a_goto 2))) (t_n 41 (t_l 40 (a_iload 1 1)) (t_n 42 (t_l 41 (a_aload 1 0)) (t_l 42 (a_getf 12 0))))) (t_n 49 (t_n 48 (t_l 45 (a_ic 50 (fun x y => !decide (x = y)))) (t_l 48 (a_push 1 (.int 1)))) (t_n 50 (t_l 49 a_iret) (t_n 51 (t_l 50 (a_push 1 (.int 0))) (t_l 51 (a_istore 4 1 2)))))) (t_n 63 (t_n 54 (t_n 53 (t_l 52 (a_iload 1 2)) (t_l 53 (a_aload 1 0))) (t_n 57 (t_l 54 (a_getf 12 24)) (t_n 60 (t_l 57 (a_getf 13 2)) (t_l 60 (a_ic 144 (fun x y => decide (y ≤ x))))))) (t_n 68 (t_n 64 (t_l 63 (a_aload 1 0)) (t_n 67 (t_l 64 (a_getf 12 6)) (t_l 67 (a_aload 1 0)))) (t_n 71 (t_l 68 (a_getf 12 24)) (t_n 74 (t_l 71 (a_getf 13 4)) (t_l 74 (a_iload 1 2)))))))) (t_n 110 (t_n 91 (t_n 84 (t_n 77 (t_n 76 (t_l 75 (a_ild 0)) (t_l 76 (a_ild 0))) (t_n 78 (t_l 77 (a_push 1 (.int (-1)))) (t_n 81 (t_l 78 (a_ic 84 (fun x y => !decide (x = y)))) (t_l 81 (a_goto 138))))) (t_n 86 (t_n 85 (t_l 84 (a_push 1 (.int 0))) (t_l 85 (a_istore 4 1 3))) (t_n 87 (t_l 86 (a_iload 1 3)) (t_n 88 (t_l 87 (a_aload 1 0)) (t_l 88 (a_getf 12 24)))))) (t_n 100 (t_n 95 (t_n 94 (t_l 91 (a_getf 13 6)) (t_l 94 (a_iload 1 2))) (t_n 96 (t_l 95 (a_ild 0)) (t_n 99 (t_l 96 (a_ic 138 (fun x y => decide (y ≤ x)))) (t_l 99 (a_aload 1 0))))) (t_n 105 (t_n 101 (t_l 100 (a_iload 1 2)) (t_n 102 (t_l 101 (a_iload 1 3)) (t_l 102 (a_inv true 208 3 (some 12))))) (t_n 106 (t_l 105 (a_iload 1 1)) (t_n 109 (t_l 106 (a_ic 132 (fun x y => !decide (x = y)))) (t_l 109 (a_aload 1 0))))))) (t_n 125 (t_n 120 (t_n 116 (t_n 113 (t_l 110 (a_getf 12 24)) (t_l 113 (a_getf 13 8))) (t_n 117 (t_l 116 (a_iload 1 2)) (t_n 119 (t_l 117 (a_push 2 (.int 8))) (t_l 119 (a_ii 1 (fun x y => x * y)))))) (t_n 122 (t_n 121 (t_l 120 (a_iload 1 3)) (t_l 121 (a_ii 1 (fun x y => x + y)))) (t_n 123 (t_l 122 (a_push 1 (.int 4))) (t_n 124 (t_l 123 (a_ii 1 (fun x y => x * y))) (t_l 124 (a_push 1 (.int 3))))))) (t_n 132 (t_n 127 (t_n 126 (t_l 125 (a_ii 1 (fun x y => x + y))) (t_l 126 (a_ild 0))) (t_n 130 (t_l 127 (a_if 132 (fun x => !decide (x = 0)))) (t_n 131 (t_l 130 (a_push 1 (.int 1))) (t_l 131 a_iret)))) (t_n 141 (t_n 135 (t_l 132 (a_iinc 4 3 1)) (t_n 138 (t_l 135 (a_goto 86)) (t_l 138 (a_iinc 4 2 1)))) (t_n 144 (t_l 141 (a_goto 52)) (t_n 145 (t_l 144 (a_push 1 (.int 0))) (t_l 145 a_iret))))))))
set_option maxRecDepth 100000 in
theorem k_X12_isWanted (d : Nat) : ∀ pc, ev_Ok cX12_isWanted 4 [] RX12 lw_g lw_n lw_q vwCl false (ev_CO mt lw_g lw_n lw_q vwCl d) pc (g_X12_isWanted pc) := (ok_t_n (ok_t_n (ok_t_n (ok_t_n (ok_t_n (ok_t_n (ok_t_l (ok_iconst dX12_isWanted_0 rfl)) (ok_t_l (ok_istore_n dX12_isWanted_1 rfl))) (ok_t_n (ok_t_l (ok_iload_n dX12_isWanted_2 rfl)) (ok_t_n (ok_t_l (ok_aload_n dX12_isWanted_3 rfl)) (ok_t_l (ok_getfield dX12_isWanted_4 (ci := 12) (kf := 4) rfl inGX12 (by decide) w_1858))))) (ok_t_n (ok_t_n (ok_t_l (ok_icmp_ge dX12_isWanted_7 rfl)) (ok_t_l (ok_aload_n dX12_isWanted_10 rfl))) (ok_t_n (ok_t_l (ok_getfield dX12_isWanted_11 (ci := 12) (kf := 24) rfl inGX12 (by decide) w_1891)) (ok_t_n (ok_t_l (ok_getfieldN dX12_isWanted_14 (ci := 13) (kf := 9) rfl inGX13 (by decide) (nst_38))) (ok_t_l (ok_aload_n dX12_isWanted_17 rfl)))))) (ok_t_n (ok_t_n (ok_t_n (ok_t_l (ok_getfield dX12_isWanted_18 (ci := 12) (kf := 5) rfl inGX12 (by decide) w_1860)) (ok_t_l (ok_iload_n dX12_isWanted_21 rfl))) (ok_t_n (ok_t_l (ok_iaload dX12_isWanted_22)) (ok_t_n (ok_t_l (ok_bipush dX12_isWanted_23 rfl)) (ok_t_l (ok_imul dX12_isWanted_25))))) (ok_t_n (ok_t_n (ok_t_l (ok_iload_n dX12_isWanted_26 rfl)) (ok_t_n (ok_t_l (ok_iadd dX12_isWanted_27)) (ok_t_l (ok_iaload dX12_isWanted_28)))) (ok_t_n (ok_t_l (ok_if_le dX12_isWanted_29 rfl)) (ok_t_n (ok_t_l (ok_iconst dX12_isWanted_32 rfl)) (ok_t_l (ok_ireturn dX12_isWanted_33))))))) (ok_t_n (ok_t_n (ok_t_n (ok_t_n (ok_t_l (ok_iinc dX12_isWanted_34 rfl)) (ok_t_l (ok_goto dX12_isWanted_37 rfl))) (ok_t_n (ok_t_l (ok_iload_n dX12_isWanted_40 rfl)) (ok_t_n (ok_t_l (ok_aload_n dX12_isWanted_41 rfl)) (ok_t_l (ok_getfield dX12_isWanted_42 (ci := 12) (kf := 0) rfl inGX12 (by decide) w_1852))))) (ok_t_n (ok_t_n (ok_t_l (ok_icmp_ne dX12_isWanted_45 rfl)) (ok_t_l (ok_iconst dX12_isWanted_48 rfl))) (ok_t_n (ok_t_l (ok_ireturn dX12_isWanted_49)) (ok_t_n (ok_t_l (ok_iconst dX12_isWanted_50 rfl)) (ok_t_l (ok_istore_n dX12_isWanted_51 rfl)))))) (ok_t_n (ok_t_n (ok_t_n (ok_t_l (ok_iload_n dX12_isWanted_52 rfl)) (ok_t_l (ok_aload_n dX12_isWanted_53 rfl))) (ok_t_n (ok_t_l (ok_getfield dX12_isWanted_54 (ci := 12) (kf := 24) rfl inGX12 (by decide) w_1891)) (ok_t_n (ok_t_l (ok_getfieldN dX12_isWanted_57 (ci := 13) (kf := 2) rfl inGX13 (by decide) (nst_31))) (ok_t_l (ok_icmp_ge dX12_isWanted_60 rfl))))) (ok_t_n (ok_t_n (ok_t_l (ok_aload_n dX12_isWanted_63 rfl)) (ok_t_n (ok_t_l (ok_getfield dX12_isWanted_64 (ci := 12) (kf := 6) rfl inGX12 (by decide) w_1861)) (ok_t_l (ok_aload_n dX12_isWanted_67 rfl)))) (ok_t_n (ok_t_l (ok_getfield dX12_isWanted_68 (ci := 12) (kf := 24) rfl inGX12 (by decide) w_1891)) (ok_t_n (ok_t_l (ok_getfieldN dX12_isWanted_71 (ci := 13) (kf := 4) rfl inGX13 (by decide) (nst_33))) (ok_t_l (ok_iload_n dX12_isWanted_74 rfl)))))))) (ok_t_n (ok_t_n (ok_t_n (ok_t_n (ok_t_n (ok_t_l (ok_iaload dX12_isWanted_75)) (ok_t_l (ok_iaload dX12_isWanted_76))) (ok_t_n (ok_t_l (ok_iconst dX12_isWanted_77 rfl)) (ok_t_n (ok_t_l (ok_icmp_ne dX12_isWanted_78 rfl)) (ok_t_l (ok_goto dX12_isWanted_81 rfl))))) (ok_t_n (ok_t_n (ok_t_l (ok_iconst dX12_isWanted_84 rfl)) (ok_t_l (ok_istore_n dX12_isWanted_85 rfl))) (ok_t_n (ok_t_l (ok_iload_n dX12_isWanted_86 rfl)) (ok_t_n (ok_t_l (ok_aload_n dX12_isWanted_87 rfl)) (ok_t_l (ok_getfield dX12_isWanted_88 (ci := 12) (kf := 24) rfl inGX12 (by decide) w_1891)))))) (ok_t_n (ok_t_n (ok_t_n (ok_t_l (ok_getfieldN dX12_isWanted_91 (ci := 13) (kf := 6) rfl inGX13 (by decide) (nst_35))) (ok_t_l (ok_iload_n dX12_isWanted_94 rfl))) (ok_t_n (ok_t_l (ok_iaload dX12_isWanted_95)) (ok_t_n (ok_t_l (ok_icmp_ge dX12_isWanted_96 rfl)) (ok_t_l (ok_aload_n dX12_isWanted_99 rfl))))) (ok_t_n (ok_t_n (ok_t_l (ok_iload_n dX12_isWanted_100 rfl)) (ok_t_n (ok_t_l (ok_iload_n dX12_isWanted_101 rfl)) (ok_t_l (ok_inv (run_V (y := 208) (n := 2) (ci := 12) dX12_isWanted_102 cz_208 gdG cc_208 ci_208 w_1787 cm_208 cs_208 cd_208 cl_208 rfl rfl))))) (ok_t_n (ok_t_l (ok_iload_n dX12_isWanted_105 rfl)) (ok_t_n (ok_t_l (ok_icmp_ne dX12_isWanted_106 rfl)) (ok_t_l (ok_aload_n dX12_isWanted_109 rfl))))))) (ok_t_n (ok_t_n (ok_t_n (ok_t_n (ok_t_l (ok_getfield dX12_isWanted_110 (ci := 12) (kf := 24) rfl inGX12 (by decide) w_1891)) (ok_t_l (ok_getfieldN dX12_isWanted_113 (ci := 13) (kf := 8) rfl inGX13 (by decide) (nst_37)))) (ok_t_n (ok_t_l (ok_iload_n dX12_isWanted_116 rfl)) (ok_t_n (ok_t_l (ok_bipush dX12_isWanted_117 rfl)) (ok_t_l (ok_imul dX12_isWanted_119))))) (ok_t_n (ok_t_n (ok_t_l (ok_iload_n dX12_isWanted_120 rfl)) (ok_t_l (ok_iadd dX12_isWanted_121))) (ok_t_n (ok_t_l (ok_iconst dX12_isWanted_122 rfl)) (ok_t_n (ok_t_l (ok_imul dX12_isWanted_123)) (ok_t_l (ok_iconst dX12_isWanted_124 rfl)))))) (ok_t_n (ok_t_n (ok_t_n (ok_t_l (ok_iadd dX12_isWanted_125)) (ok_t_l (ok_iaload dX12_isWanted_126))) (ok_t_n (ok_t_l (ok_if_ne dX12_isWanted_127 rfl)) (ok_t_n (ok_t_l (ok_iconst dX12_isWanted_130 rfl)) (ok_t_l (ok_ireturn dX12_isWanted_131))))) (ok_t_n (ok_t_n (ok_t_l (ok_iinc dX12_isWanted_132 rfl)) (ok_t_n (ok_t_l (ok_goto dX12_isWanted_135 rfl)) (ok_t_l (ok_iinc dX12_isWanted_138 rfl)))) (ok_t_n (ok_t_l (ok_goto dX12_isWanted_141 rfl)) (ok_t_n (ok_t_l (ok_iconst dX12_isWanted_144 rfl)) (ok_t_l (ok_ireturn dX12_isWanted_145)))))))))
theorem dX12_nameAt_0 : decode cX12_nameAt 0 = .ok (.aload_n 0, 1) := by decide +kernel
theorem dX12_nameAt_1 : decode cX12_nameAt 1 = .ok (.getfield 3, 3) := by decide +kernel
theorem dX12_nameAt_4 : decode cX12_nameAt 4 = .ok (.getfield 139, 3) := by decide +kernel
theorem dX12_nameAt_7 : decode cX12_nameAt 7 = .ok (.iload_n 1, 1) := by decide +kernel
theorem dX12_nameAt_8 : decode cX12_nameAt 8 = .ok (.bipush 8, 2) := by decide +kernel
theorem dX12_nameAt_10 : decode cX12_nameAt 10 = .ok (.imul, 1) := by decide +kernel
theorem dX12_nameAt_11 : decode cX12_nameAt 11 = .ok (.iload_n 2, 1) := by decide +kernel
theorem dX12_nameAt_12 : decode cX12_nameAt 12 = .ok (.iadd, 1) := by decide +kernel
theorem dX12_nameAt_13 : decode cX12_nameAt 13 = .ok (.iconst 4, 1) := by decide +kernel
theorem dX12_nameAt_14 : decode cX12_nameAt 14 = .ok (.imul, 1) := by decide +kernel
theorem dX12_nameAt_15 : decode cX12_nameAt 15 = .ok (.iaload, 1) := by decide +kernel
theorem dX12_nameAt_16 : decode cX12_nameAt 16 = .ok (.ifCond .ne 7, 3) := by decide +kernel
theorem dX12_nameAt_19 : decode cX12_nameAt 19 = .ok (.iconst (-1), 1) := by decide +kernel
theorem dX12_nameAt_20 : decode cX12_nameAt 20 = .ok (.goto 21, 3) := by decide +kernel
theorem dX12_nameAt_23 : decode cX12_nameAt 23 = .ok (.aload_n 0, 1) := by decide +kernel
theorem dX12_nameAt_24 : decode cX12_nameAt 24 = .ok (.getfield 3, 3) := by decide +kernel
theorem dX12_nameAt_27 : decode cX12_nameAt 27 = .ok (.getfield 139, 3) := by decide +kernel
theorem dX12_nameAt_30 : decode cX12_nameAt 30 = .ok (.iload_n 1, 1) := by decide +kernel
theorem dX12_nameAt_31 : decode cX12_nameAt 31 = .ok (.bipush 8, 2) := by decide +kernel
theorem dX12_nameAt_33 : decode cX12_nameAt 33 = .ok (.imul, 1) := by decide +kernel
theorem dX12_nameAt_34 : decode cX12_nameAt 34 = .ok (.iload_n 2, 1) := by decide +kernel
theorem dX12_nameAt_35 : decode cX12_nameAt 35 = .ok (.iadd, 1) := by decide +kernel
theorem dX12_nameAt_36 : decode cX12_nameAt 36 = .ok (.iconst 4, 1) := by decide +kernel
theorem dX12_nameAt_37 : decode cX12_nameAt 37 = .ok (.imul, 1) := by decide +kernel
theorem dX12_nameAt_38 : decode cX12_nameAt 38 = .ok (.iconst 1, 1) := by decide +kernel
theorem dX12_nameAt_39 : decode cX12_nameAt 39 = .ok (.iadd, 1) := by decide +kernel
theorem dX12_nameAt_40 : decode cX12_nameAt 40 = .ok (.iaload, 1) := by decide +kernel
theorem dX12_nameAt_41 : decode cX12_nameAt 41 = .ok (.ireturn, 1) := by decide +kernel
def g_X12_nameAt : Nat → EA := (t_n 23 (t_n 12 (t_n 7 (t_n 1 (t_l 0 (a_aload 1 0)) (t_n 4 (t_l 1 (a_getf 12 24)) (t_l 4 (a_getf 13 8)))) (t_n 10 (t_n 8 (t_l 7 (a_iload 1 1)) (t_l 8 (a_push 2 (.int 8)))) (t_n 11 (t_l 10 (a_ii 1 (fun x y => x * y))) (t_l 11 (a_iload 1 2))))) (t_n 15 (t_n 13 (t_l 12 (a_ii 1 (fun x y => x + y))) (t_n 14 (t_l 13 (a_push 1 (.int 4))) (t_l 14 (a_ii 1 (fun x y => x * y))))) (t_n 19 (t_n 16 (t_l 15 (a_ild 0)) (t_l 16 (a_if 23 (fun x => !decide (x = 0))))) (t_n 20 (t_l 19 (a_push 1 (.int (-1)))) (t_l 20 (a_goto 41)))))) (t_n 35 (t_n 30 (t_n 24 (t_l 23 (a_aload 1 0)) (t_n 27 (t_l 24 (a_getf 12 24)) (t_l 27 (a_getf 13 8)))) (t_n 33 (t_n 31 (t_l 30 (a_iload 1 1)) (t_l 31 (a_push 2 (.int 8)))) (t_n 34 (t_l 33 (a_ii 1 (fun x y => x * y))) (t_l 34 (a_iload 1 2))))) (t_n 38 (t_n 36 (t_l 35 (a_ii 1 (fun x y => x + y))) (t_n 37 (t_l 36 (a_push 1 (.int 4))) (t_l 37 (a_ii 1 (fun x y => x * y))))) (t_n 40 (t_n 39 (t_l 38 (a_push 1 (.int 1))) (t_l 39 (a_ii 1 (fun x y => x + y)))) (t_n 41 (t_l 40 (a_ild 0)) (t_l 41 a_iret))))))
set_option maxRecDepth 100000 in
theorem k_X12_nameAt (d : Nat) : ∀ pc, ev_Ok cX12_nameAt 3 [] RX12 lw_g lw_n lw_q vwCl false (ev_CO mt lw_g lw_n lw_q vwCl d) pc (g_X12_nameAt pc) := (ok_t_n (ok_t_n (ok_t_n (ok_t_n (ok_t_l (ok_aload_n dX12_nameAt_0 rfl)) (ok_t_n (ok_t_l (ok_getfield dX12_nameAt_1 (ci := 12) (kf := 24) rfl inGX12 (by decide) w_1891)) (ok_t_l (ok_getfieldN dX12_nameAt_4 (ci := 13) (kf := 8) rfl inGX13 (by decide) (nst_37))))) (ok_t_n (ok_t_n (ok_t_l (ok_iload_n dX12_nameAt_7 rfl)) (ok_t_l (ok_bipush dX12_nameAt_8 rfl))) (ok_t_n (ok_t_l (ok_imul dX12_nameAt_10)) (ok_t_l (ok_iload_n dX12_nameAt_11 rfl))))) (ok_t_n (ok_t_n (ok_t_l (ok_iadd dX12_nameAt_12)) (ok_t_n (ok_t_l (ok_iconst dX12_nameAt_13 rfl)) (ok_t_l (ok_imul dX12_nameAt_14)))) (ok_t_n (ok_t_n (ok_t_l (ok_iaload dX12_nameAt_15)) (ok_t_l (ok_if_ne dX12_nameAt_16 rfl))) (ok_t_n (ok_t_l (ok_iconst dX12_nameAt_19 rfl)) (ok_t_l (ok_goto dX12_nameAt_20 rfl)))))) (ok_t_n (ok_t_n (ok_t_n (ok_t_l (ok_aload_n dX12_nameAt_23 rfl)) (ok_t_n (ok_t_l (ok_getfield dX12_nameAt_24 (ci := 12) (kf := 24) rfl inGX12 (by decide) w_1891)) (ok_t_l (ok_getfieldN dX12_nameAt_27 (ci := 13) (kf := 8) rfl inGX13 (by decide) (nst_37))))) (ok_t_n (ok_t_n (ok_t_l (ok_iload_n dX12_nameAt_30 rfl)) (ok_t_l (ok_bipush dX12_nameAt_31 rfl))) (ok_t_n (ok_t_l (ok_imul dX12_nameAt_33)) (ok_t_l (ok_iload_n dX12_nameAt_34 rfl))))) (ok_t_n (ok_t_n (ok_t_l (ok_iadd dX12_nameAt_35)) (ok_t_n (ok_t_l (ok_iconst dX12_nameAt_36 rfl)) (ok_t_l (ok_imul dX12_nameAt_37)))) (ok_t_n (ok_t_n (ok_t_l (ok_iconst dX12_nameAt_38 rfl)) (ok_t_l (ok_iadd dX12_nameAt_39))) (ok_t_n (ok_t_l (ok_iaload dX12_nameAt_40)) (ok_t_l (ok_ireturn dX12_nameAt_41)))))))
theorem dX12_firstWith_0 : decode cX12_firstWith 0 = .ok (.iconst 0, 1) := by decide +kernel
theorem dX12_firstWith_1 : decode cX12_firstWith 1 = .ok (.istore_n 3, 1) := by decide +kernel
theorem dX12_firstWith_2 : decode cX12_firstWith 2 = .ok (.iload_n 3, 1) := by decide +kernel
theorem dX12_firstWith_3 : decode cX12_firstWith 3 = .ok (.aload_n 0, 1) := by decide +kernel
theorem dX12_firstWith_4 : decode cX12_firstWith 4 = .ok (.getfield 117, 3) := by decide +kernel
theorem dX12_firstWith_7 : decode cX12_firstWith 7 = .ok (.if_icmp .ge 39, 3) := by decide +kernel
theorem dX12_firstWith_10 : decode cX12_firstWith 10 = .ok (.aload_n 0, 1) := by decide +kernel
theorem dX12_firstWith_11 : decode cX12_firstWith 11 = .ok (.getfield 3, 3) := by decide +kernel
theorem dX12_firstWith_14 : decode cX12_firstWith 14 = .ok (.getfield 120, 3) := by decide +kernel
theorem dX12_firstWith_17 : decode cX12_firstWith 17 = .ok (.aload_n 0, 1) := by decide +kernel
theorem dX12_firstWith_18 : decode cX12_firstWith 18 = .ok (.getfield 15, 3) := by decide +kernel
theorem dX12_firstWith_21 : decode cX12_firstWith 21 = .ok (.iload_n 3, 1) := by decide +kernel
theorem dX12_firstWith_22 : decode cX12_firstWith 22 = .ok (.iaload, 1) := by decide +kernel
theorem dX12_firstWith_23 : decode cX12_firstWith 23 = .ok (.bipush 20, 2) := by decide +kernel
theorem dX12_firstWith_25 : decode cX12_firstWith 25 = .ok (.imul, 1) := by decide +kernel
theorem dX12_firstWith_26 : decode cX12_firstWith 26 = .ok (.iload_n 1, 1) := by decide +kernel
theorem dX12_firstWith_27 : decode cX12_firstWith 27 = .ok (.iadd, 1) := by decide +kernel
theorem dX12_firstWith_28 : decode cX12_firstWith 28 = .ok (.iaload, 1) := by decide +kernel
theorem dX12_firstWith_29 : decode cX12_firstWith 29 = .ok (.iload_n 2, 1) := by decide +kernel
theorem dX12_firstWith_30 : decode cX12_firstWith 30 = .ok (.if_icmp .ne 10, 3) := by decide +kernel
theorem dX12_firstWith_33 : decode cX12_firstWith 33 = .ok (.aload_n 0, 1) := by decide +kernel
theorem dX12_firstWith_34 : decode cX12_firstWith 34 = .ok (.getfield 15, 3) := by decide +kernel
theorem dX12_firstWith_37 : decode cX12_firstWith 37 = .ok (.iload_n 3, 1) := by decide +kernel
theorem dX12_firstWith_38 : decode cX12_firstWith 38 = .ok (.iaload, 1) := by decide +kernel
theorem dX12_firstWith_39 : decode cX12_firstWith 39 = .ok (.ireturn, 1) := by decide +kernel
theorem dX12_firstWith_40 : decode cX12_firstWith 40 = .ok (.iinc 3 1, 3) := by decide +kernel
theorem dX12_firstWith_43 : decode cX12_firstWith 43 = .ok (.goto (-41), 3) := by decide +kernel
theorem dX12_firstWith_46 : decode cX12_firstWith 46 = .ok (.iconst (-1), 1) := by decide +kernel
theorem dX12_firstWith_47 : decode cX12_firstWith 47 = .ok (.ireturn, 1) := by decide +kernel
def g_X12_firstWith : Nat → EA := (t_n 25 (t_n 11 (t_n 3 (t_n 1 (t_l 0 (a_push 1 (.int 0))) (t_n 2 (t_l 1 (a_istore 4 1 3)) (t_l 2 (a_iload 1 3)))) (t_n 7 (t_n 4 (t_l 3 (a_aload 1 0)) (t_l 4 (a_getf 12 4))) (t_n 10 (t_l 7 (a_ic 46 (fun x y => decide (y ≤ x)))) (t_l 10 (a_aload 1 0))))) (t_n 18 (t_n 14 (t_l 11 (a_getf 12 24)) (t_n 17 (t_l 14 (a_getf 13 9)) (t_l 17 (a_aload 1 0)))) (t_n 22 (t_n 21 (t_l 18 (a_getf 12 5)) (t_l 21 (a_iload 1 3))) (t_n 23 (t_l 22 (a_ild 0)) (t_l 23 (a_push 2 (.int 20))))))) (t_n 34 (t_n 28 (t_n 26 (t_l 25 (a_ii 1 (fun x y => x * y))) (t_n 27 (t_l 26 (a_iload 1 1)) (t_l 27 (a_ii 1 (fun x y => x + y))))) (t_n 30 (t_n 29 (t_l 28 (a_ild 0)) (t_l 29 (a_iload 1 2))) (t_n 33 (t_l 30 (a_ic 40 (fun x y => !decide (x = y)))) (t_l 33 (a_aload 1 0))))) (t_n 40 (t_n 38 (t_n 37 (t_l 34 (a_getf 12 5)) (t_l 37 (a_iload 1 3))) (t_n 39 (t_l 38 (a_ild 0)) (t_l 39 a_iret))) (t_n 46 (t_n 43 (t_l 40 (a_iinc 4 3 1)) (t_l 43 (a_goto 2))) (t_n 47 (t_l 46 (a_push 1 (.int (-1)))) (t_l 47 a_iret))))))
set_option maxRecDepth 100000 in
theorem k_X12_firstWith (d : Nat) : ∀ pc, ev_Ok cX12_firstWith 4 [] RX12 lw_g lw_n lw_q vwCl false (ev_CO mt lw_g lw_n lw_q vwCl d) pc (g_X12_firstWith pc) := (ok_t_n (ok_t_n (ok_t_n (ok_t_n (ok_t_l (ok_iconst dX12_firstWith_0 rfl)) (ok_t_n (ok_t_l (ok_istore_n dX12_firstWith_1 rfl)) (ok_t_l (ok_iload_n dX12_firstWith_2 rfl)))) (ok_t_n (ok_t_n (ok_t_l (ok_aload_n dX12_firstWith_3 rfl)) (ok_t_l (ok_getfield dX12_firstWith_4 (ci := 12) (kf := 4) rfl inGX12 (by decide) w_1858))) (ok_t_n (ok_t_l (ok_icmp_ge dX12_firstWith_7 rfl)) (ok_t_l (ok_aload_n dX12_firstWith_10 rfl))))) (ok_t_n (ok_t_n (ok_t_l (ok_getfield dX12_firstWith_11 (ci := 12) (kf := 24) rfl inGX12 (by decide) w_1891)) (ok_t_n (ok_t_l (ok_getfieldN dX12_firstWith_14 (ci := 13) (kf := 9) rfl inGX13 (by decide) (nst_38))) (ok_t_l (ok_aload_n dX12_firstWith_17 rfl)))) (ok_t_n (ok_t_n (ok_t_l (ok_getfield dX12_firstWith_18 (ci := 12) (kf := 5) rfl inGX12 (by decide) w_1860)) (ok_t_l (ok_iload_n dX12_firstWith_21 rfl))) (ok_t_n (ok_t_l (ok_iaload dX12_firstWith_22)) (ok_t_l (ok_bipush dX12_firstWith_23 rfl)))))) (ok_t_n (ok_t_n (ok_t_n (ok_t_l (ok_imul dX12_firstWith_25)) (ok_t_n (ok_t_l (ok_iload_n dX12_firstWith_26 rfl)) (ok_t_l (ok_iadd dX12_firstWith_27)))) (ok_t_n (ok_t_n (ok_t_l (ok_iaload dX12_firstWith_28)) (ok_t_l (ok_iload_n dX12_firstWith_29 rfl))) (ok_t_n (ok_t_l (ok_icmp_ne dX12_firstWith_30 rfl)) (ok_t_l (ok_aload_n dX12_firstWith_33 rfl))))) (ok_t_n (ok_t_n (ok_t_n (ok_t_l (ok_getfield dX12_firstWith_34 (ci := 12) (kf := 5) rfl inGX12 (by decide) w_1860)) (ok_t_l (ok_iload_n dX12_firstWith_37 rfl))) (ok_t_n (ok_t_l (ok_iaload dX12_firstWith_38)) (ok_t_l (ok_ireturn dX12_firstWith_39)))) (ok_t_n (ok_t_n (ok_t_l (ok_iinc dX12_firstWith_40 rfl)) (ok_t_l (ok_goto dX12_firstWith_43 rfl))) (ok_t_n (ok_t_l (ok_iconst dX12_firstWith_46 rfl)) (ok_t_l (ok_ireturn dX12_firstWith_47)))))))
theorem dX12_settle_0 : decode cX12_settle 0 = .ok (.aload_n 0, 1) := by decide +kernel
theorem dX12_settle_1 : decode cX12_settle 1 = .ok (.getfield 34, 3) := by decide +kernel
theorem dX12_settle_4 : decode cX12_settle 4 = .ok (.iload_n 1, 1) := by decide +kernel
theorem dX12_settle_5 : decode cX12_settle 5 = .ok (.iconst (-1), 1) := by decide +kernel
theorem dX12_settle_6 : decode cX12_settle 6 = .ok (.iastore, 1) := by decide +kernel
theorem dX12_settle_7 : decode cX12_settle 7 = .ok (.aload_n 0, 1) := by decide +kernel
theorem dX12_settle_8 : decode cX12_settle 8 = .ok (.getfield 22, 3) := by decide +kernel
theorem dX12_settle_11 : decode cX12_settle 11 = .ok (.iload_n 1, 1) := by decide +kernel
theorem dX12_settle_12 : decode cX12_settle 12 = .ok (.aload_n 0, 1) := by decide +kernel
theorem dX12_settle_13 : decode cX12_settle 13 = .ok (.iload_n 1, 1) := by decide +kernel
theorem dX12_settle_14 : decode cX12_settle 14 = .ok (.iconst 1, 1) := by decide +kernel
theorem dX12_settle_15 : decode cX12_settle 15 = .ok (.invokevirtual 142, 3) := by decide +kernel
theorem dX12_settle_18 : decode cX12_settle 18 = .ok (.iconst (-1), 1) := by decide +kernel
theorem dX12_settle_19 : decode cX12_settle 19 = .ok (.if_icmp .eq 7, 3) := by decide +kernel
theorem dX12_settle_22 : decode cX12_settle 22 = .ok (.iconst 0, 1) := by decide +kernel
theorem dX12_settle_23 : decode cX12_settle 23 = .ok (.goto 32, 3) := by decide +kernel
theorem dX12_settle_26 : decode cX12_settle 26 = .ok (.aload_n 0, 1) := by decide +kernel
theorem dX12_settle_27 : decode cX12_settle 27 = .ok (.iload_n 1, 1) := by decide +kernel
theorem dX12_settle_28 : decode cX12_settle 28 = .ok (.iconst 3, 1) := by decide +kernel
theorem dX12_settle_29 : decode cX12_settle 29 = .ok (.invokevirtual 142, 3) := by decide +kernel
theorem dX12_settle_32 : decode cX12_settle 32 = .ok (.iconst (-1), 1) := by decide +kernel
theorem dX12_settle_33 : decode cX12_settle 33 = .ok (.if_icmp .eq 7, 3) := by decide +kernel
theorem dX12_settle_36 : decode cX12_settle 36 = .ok (.iconst 1, 1) := by decide +kernel
theorem dX12_settle_37 : decode cX12_settle 37 = .ok (.goto 18, 3) := by decide +kernel
theorem dX12_settle_40 : decode cX12_settle 40 = .ok (.aload_n 0, 1) := by decide +kernel
theorem dX12_settle_41 : decode cX12_settle 41 = .ok (.iload_n 1, 1) := by decide +kernel
theorem dX12_settle_42 : decode cX12_settle 42 = .ok (.iconst 2, 1) := by decide +kernel
theorem dX12_settle_43 : decode cX12_settle 43 = .ok (.invokevirtual 142, 3) := by decide +kernel
theorem dX12_settle_46 : decode cX12_settle 46 = .ok (.iconst (-1), 1) := by decide +kernel
theorem dX12_settle_47 : decode cX12_settle 47 = .ok (.if_icmp .eq 7, 3) := by decide +kernel
theorem dX12_settle_50 : decode cX12_settle 50 = .ok (.iconst 2, 1) := by decide +kernel
theorem dX12_settle_51 : decode cX12_settle 51 = .ok (.goto 4, 3) := by decide +kernel
theorem dX12_settle_54 : decode cX12_settle 54 = .ok (.iconst (-1), 1) := by decide +kernel
theorem dX12_settle_55 : decode cX12_settle 55 = .ok (.iastore, 1) := by decide +kernel
theorem dX12_settle_56 : decode cX12_settle 56 = .ok (.aload_n 0, 1) := by decide +kernel
theorem dX12_settle_57 : decode cX12_settle 57 = .ok (.getfield 25, 3) := by decide +kernel
theorem dX12_settle_60 : decode cX12_settle 60 = .ok (.iload_n 1, 1) := by decide +kernel
theorem dX12_settle_61 : decode cX12_settle 61 = .ok (.aload_n 0, 1) := by decide +kernel
theorem dX12_settle_62 : decode cX12_settle 62 = .ok (.getfield 22, 3) := by decide +kernel
theorem dX12_settle_65 : decode cX12_settle 65 = .ok (.iload_n 1, 1) := by decide +kernel
theorem dX12_settle_66 : decode cX12_settle 66 = .ok (.iaload, 1) := by decide +kernel
theorem dX12_settle_67 : decode cX12_settle 67 = .ok (.ifCond .ne 12, 3) := by decide +kernel
theorem dX12_settle_70 : decode cX12_settle 70 = .ok (.aload_n 0, 1) := by decide +kernel
theorem dX12_settle_71 : decode cX12_settle 71 = .ok (.iload_n 1, 1) := by decide +kernel
theorem dX12_settle_72 : decode cX12_settle 72 = .ok (.iconst 1, 1) := by decide +kernel
theorem dX12_settle_73 : decode cX12_settle 73 = .ok (.invokevirtual 142, 3) := by decide +kernel
theorem dX12_settle_76 : decode cX12_settle 76 = .ok (.goto 23, 3) := by decide +kernel
theorem dX12_settle_79 : decode cX12_settle 79 = .ok (.aload_n 0, 1) := by decide +kernel
theorem dX12_settle_80 : decode cX12_settle 80 = .ok (.getfield 22, 3) := by decide +kernel
theorem dX12_settle_83 : decode cX12_settle 83 = .ok (.iload_n 1, 1) := by decide +kernel
theorem dX12_settle_84 : decode cX12_settle 84 = .ok (.iaload, 1) := by decide +kernel
theorem dX12_settle_85 : decode cX12_settle 85 = .ok (.iconst 2, 1) := by decide +kernel
theorem dX12_settle_86 : decode cX12_settle 86 = .ok (.if_icmp .ne 12, 3) := by decide +kernel
theorem dX12_settle_89 : decode cX12_settle 89 = .ok (.aload_n 0, 1) := by decide +kernel
theorem dX12_settle_90 : decode cX12_settle 90 = .ok (.iload_n 1, 1) := by decide +kernel
theorem dX12_settle_91 : decode cX12_settle 91 = .ok (.iconst 2, 1) := by decide +kernel
theorem dX12_settle_92 : decode cX12_settle 92 = .ok (.invokevirtual 142, 3) := by decide +kernel
theorem dX12_settle_95 : decode cX12_settle 95 = .ok (.goto 4, 3) := by decide +kernel
theorem dX12_settle_98 : decode cX12_settle 98 = .ok (.iconst (-1), 1) := by decide +kernel
theorem dX12_settle_99 : decode cX12_settle 99 = .ok (.iastore, 1) := by decide +kernel
theorem dX12_settle_100 : decode cX12_settle 100 = .ok (.iconst 0, 1) := by decide +kernel
theorem dX12_settle_101 : decode cX12_settle 101 = .ok (.istore_n 2, 1) := by decide +kernel
theorem dX12_settle_102 : decode cX12_settle 102 = .ok (.iconst 0, 1) := by decide +kernel
theorem dX12_settle_103 : decode cX12_settle 103 = .ok (.istore_n 3, 1) := by decide +kernel
theorem dX12_settle_104 : decode cX12_settle 104 = .ok (.iload_n 3, 1) := by decide +kernel
theorem dX12_settle_105 : decode cX12_settle 105 = .ok (.aload_n 0, 1) := by decide +kernel
theorem dX12_settle_106 : decode cX12_settle 106 = .ok (.getfield 117, 3) := by decide +kernel
theorem dX12_settle_109 : decode cX12_settle 109 = .ok (.if_icmp .ge 111, 3) := by decide +kernel
theorem dX12_settle_112 : decode cX12_settle 112 = .ok (.aload_n 0, 1) := by decide +kernel
theorem dX12_settle_113 : decode cX12_settle 113 = .ok (.getfield 15, 3) := by decide +kernel
theorem dX12_settle_116 : decode cX12_settle 116 = .ok (.iload_n 3, 1) := by decide +kernel
theorem dX12_settle_117 : decode cX12_settle 117 = .ok (.iaload, 1) := by decide +kernel
theorem dX12_settle_118 : decode cX12_settle 118 = .ok (.bipush 20, 2) := by decide +kernel
theorem dX12_settle_120 : decode cX12_settle 120 = .ok (.imul, 1) := by decide +kernel
theorem dX12_settle_121 : decode cX12_settle 121 = .ok (.iload_n 1, 1) := by decide +kernel
theorem dX12_settle_122 : decode cX12_settle 122 = .ok (.iadd, 1) := by decide +kernel
theorem dX12_settle_123 : decode cX12_settle 123 = .ok (.istore 4, 2) := by decide +kernel
theorem dX12_settle_125 : decode cX12_settle 125 = .ok (.iload_n 2, 1) := by decide +kernel
theorem dX12_settle_126 : decode cX12_settle 126 = .ok (.aload_n 0, 1) := by decide +kernel
theorem dX12_settle_127 : decode cX12_settle 127 = .ok (.getfield 3, 3) := by decide +kernel
theorem dX12_settle_130 : decode cX12_settle 130 = .ok (.getfield 120, 3) := by decide +kernel
theorem dX12_settle_133 : decode cX12_settle 133 = .ok (.iload 4, 2) := by decide +kernel
theorem dX12_settle_135 : decode cX12_settle 135 = .ok (.iaload, 1) := by decide +kernel
theorem dX12_settle_136 : decode cX12_settle 136 = .ok (.iconst 1, 1) := by decide +kernel
theorem dX12_settle_137 : decode cX12_settle 137 = .ok (.if_icmp .ne 7, 3) := by decide +kernel
theorem dX12_settle_140 : decode cX12_settle 140 = .ok (.iconst 1, 1) := by decide +kernel
theorem dX12_settle_141 : decode cX12_settle 141 = .ok (.goto 4, 3) := by decide +kernel
theorem dX12_settle_144 : decode cX12_settle 144 = .ok (.iconst 0, 1) := by decide +kernel
theorem dX12_settle_145 : decode cX12_settle 145 = .ok (.iadd, 1) := by decide +kernel
theorem dX12_settle_146 : decode cX12_settle 146 = .ok (.istore_n 2, 1) := by decide +kernel
theorem dX12_settle_147 : decode cX12_settle 147 = .ok (.aload_n 0, 1) := by decide +kernel
theorem dX12_settle_148 : decode cX12_settle 148 = .ok (.getfield 3, 3) := by decide +kernel
theorem dX12_settle_151 : decode cX12_settle 151 = .ok (.getfield 120, 3) := by decide +kernel
theorem dX12_settle_154 : decode cX12_settle 154 = .ok (.iload 4, 2) := by decide +kernel
theorem dX12_settle_156 : decode cX12_settle 156 = .ok (.iaload, 1) := by decide +kernel
theorem dX12_settle_157 : decode cX12_settle 157 = .ok (.iconst 3, 1) := by decide +kernel
theorem dX12_settle_158 : decode cX12_settle 158 = .ok (.if_icmp .eq 6, 3) := by decide +kernel
theorem dX12_settle_161 : decode cX12_settle 161 = .ok (.goto 53, 3) := by decide +kernel
theorem dX12_settle_164 : decode cX12_settle 164 = .ok (.aload_n 0, 1) := by decide +kernel
theorem dX12_settle_165 : decode cX12_settle 165 = .ok (.getfield 28, 3) := by decide +kernel
theorem dX12_settle_168 : decode cX12_settle 168 = .ok (.iload_n 1, 1) := by decide +kernel
theorem dX12_settle_169 : decode cX12_settle 169 = .ok (.aload_n 0, 1) := by decide +kernel
theorem dX12_settle_170 : decode cX12_settle 170 = .ok (.getfield 28, 3) := by decide +kernel
theorem dX12_settle_173 : decode cX12_settle 173 = .ok (.iload_n 1, 1) := by decide +kernel
theorem dX12_settle_174 : decode cX12_settle 174 = .ok (.iaload, 1) := by decide +kernel
theorem dX12_settle_175 : decode cX12_settle 175 = .ok (.aload_n 0, 1) := by decide +kernel
theorem dX12_settle_176 : decode cX12_settle 176 = .ok (.getfield 3, 3) := by decide +kernel
theorem dX12_settle_179 : decode cX12_settle 179 = .ok (.getfield 145, 3) := by decide +kernel
theorem dX12_settle_182 : decode cX12_settle 182 = .ok (.iload 4, 2) := by decide +kernel
theorem dX12_settle_184 : decode cX12_settle 184 = .ok (.iaload, 1) := by decide +kernel
theorem dX12_settle_185 : decode cX12_settle 185 = .ok (.invokestatic 148, 3) := by decide +kernel
theorem dX12_settle_188 : decode cX12_settle 188 = .ok (.iastore, 1) := by decide +kernel
theorem dX12_settle_189 : decode cX12_settle 189 = .ok (.aload_n 0, 1) := by decide +kernel
theorem dX12_settle_190 : decode cX12_settle 190 = .ok (.getfield 31, 3) := by decide +kernel
theorem dX12_settle_193 : decode cX12_settle 193 = .ok (.iload_n 1, 1) := by decide +kernel
theorem dX12_settle_194 : decode cX12_settle 194 = .ok (.aload_n 0, 1) := by decide +kernel
theorem dX12_settle_195 : decode cX12_settle 195 = .ok (.getfield 31, 3) := by decide +kernel
theorem dX12_settle_198 : decode cX12_settle 198 = .ok (.iload_n 1, 1) := by decide +kernel
theorem dX12_settle_199 : decode cX12_settle 199 = .ok (.iaload, 1) := by decide +kernel
theorem dX12_settle_200 : decode cX12_settle 200 = .ok (.aload_n 0, 1) := by decide +kernel
theorem dX12_settle_201 : decode cX12_settle 201 = .ok (.getfield 3, 3) := by decide +kernel
theorem dX12_settle_204 : decode cX12_settle 204 = .ok (.getfield 153, 3) := by decide +kernel
theorem dX12_settle_207 : decode cX12_settle 207 = .ok (.iload 4, 2) := by decide +kernel
theorem dX12_settle_209 : decode cX12_settle 209 = .ok (.iaload, 1) := by decide +kernel
theorem dX12_settle_210 : decode cX12_settle 210 = .ok (.invokestatic 148, 3) := by decide +kernel
theorem dX12_settle_213 : decode cX12_settle 213 = .ok (.iastore, 1) := by decide +kernel
theorem dX12_settle_214 : decode cX12_settle 214 = .ok (.iinc 3 1, 3) := by decide +kernel
theorem dX12_settle_217 : decode cX12_settle 217 = .ok (.goto (-113), 3) := by decide +kernel
theorem dX12_settle_220 : decode cX12_settle 220 = .ok (.iload_n 2, 1) := by decide +kernel
theorem dX12_settle_221 : decode cX12_settle 221 = .ok (.iconst 1, 1) := by decide +kernel
theorem dX12_settle_222 : decode cX12_settle 222 = .ok (.if_icmp .le 11, 3) := by decide +kernel
theorem dX12_settle_225 : decode cX12_settle 225 = .ok (.aload_n 0, 1) := by decide +kernel
theorem dX12_settle_226 : decode cX12_settle 226 = .ok (.iconst 1, 1) := by decide +kernel
theorem dX12_settle_227 : decode cX12_settle 227 = .ok (.iload_n 1, 1) := by decide +kernel
theorem dX12_settle_228 : decode cX12_settle 228 = .ok (.iconst (-1), 1) := by decide +kernel
theorem dX12_settle_229 : decode cX12_settle 229 = .ok (.iconst (-1), 1) := by decide +kernel
theorem dX12_settle_230 : decode cX12_settle 230 = .ok (.invokevirtual 156, 3) := by decide +kernel
theorem dX12_settle_233 : decode cX12_settle 233 = .ok (.return_, 1) := by decide +kernel
def g_X12_settle : Nat → EA := (t_n 113 (t_n 56 (t_n 27 (t_n 12 (t_n 6 (t_n 4 (t_n 1 (t_l 0 (a_aload 1 0)) (t_l 1 (a_getf 12 11))) (t_n 5 (t_l 4 (a_iload 1 1)) (t_l 5 (a_push 1 (.int (-1)))))) (t_n 8 (t_n 7 (t_l 6 (a_ist 0)) (t_l 7 (a_aload 1 0))) (t_n 11 (t_l 8 (a_getf 12 7)) (t_l 11 (a_iload 1 1))))) (t_n 18 (t_n 14 (t_n 13 (t_l 12 (a_aload 1 0)) (t_l 13 (a_iload 1 1))) (t_n 15 (t_l 14 (a_push 1 (.int 1))) (t_l 15 (a_inv true 209 3 (some 12))))) (t_n 22 (t_n 19 (t_l 18 (a_push 1 (.int (-1)))) (t_l 19 (a_ic 26 (fun x y => decide (x = y))))) (t_n 23 (t_l 22 (a_push 1 (.int 0))) (t_n 26 (t_l 23 (a_goto 55)) (t_l 26 (a_aload 1 0))))))) (t_n 41 (t_n 33 (t_n 29 (t_n 28 (t_l 27 (a_iload 1 1)) (t_l 28 (a_push 1 (.int 3)))) (t_n 32 (t_l 29 (a_inv true 209 3 (some 12))) (t_l 32 (a_push 1 (.int (-1)))))) (t_n 37 (t_n 36 (t_l 33 (a_ic 40 (fun x y => decide (x = y)))) (t_l 36 (a_push 1 (.int 1)))) (t_n 40 (t_l 37 (a_goto 55)) (t_l 40 (a_aload 1 0))))) (t_n 47 (t_n 43 (t_n 42 (t_l 41 (a_iload 1 1)) (t_l 42 (a_push 1 (.int 2)))) (t_n 46 (t_l 43 (a_inv true 209 3 (some 12))) (t_l 46 (a_push 1 (.int (-1)))))) (t_n 51 (t_n 50 (t_l 47 (a_ic 54 (fun x y => decide (x = y)))) (t_l 50 (a_push 1 (.int 2)))) (t_n 54 (t_l 51 (a_goto 55)) (t_n 55 (t_l 54 (a_push 1 (.int (-1)))) (t_l 55 (a_ist 0)))))))) (t_n 85 (t_n 70 (t_n 62 (t_n 60 (t_n 57 (t_l 56 (a_aload 1 0)) (t_l 57 (a_getf 12 8))) (t_n 61 (t_l 60 (a_iload 1 1)) (t_l 61 (a_aload 1 0)))) (t_n 66 (t_n 65 (t_l 62 (a_getf 12 7)) (t_l 65 (a_iload 1 1))) (t_n 67 (t_l 66 (a_ild 0)) (t_l 67 (a_if 79 (fun x => !decide (x = 0))))))) (t_n 76 (t_n 72 (t_n 71 (t_l 70 (a_aload 1 0)) (t_l 71 (a_iload 1 1))) (t_n 73 (t_l 72 (a_push 1 (.int 1))) (t_l 73 (a_inv true 209 3 (some 12))))) (t_n 80 (t_n 79 (t_l 76 (a_goto 99)) (t_l 79 (a_aload 1 0))) (t_n 83 (t_l 80 (a_getf 12 7)) (t_n 84 (t_l 83 (a_iload 1 1)) (t_l 84 (a_ild 0))))))) (t_n 100 (t_n 91 (t_n 89 (t_n 86 (t_l 85 (a_push 1 (.int 2))) (t_l 86 (a_ic 98 (fun x y => !decide (x = y))))) (t_n 90 (t_l 89 (a_aload 1 0)) (t_l 90 (a_iload 1 1)))) (t_n 95 (t_n 92 (t_l 91 (a_push 1 (.int 2))) (t_l 92 (a_inv true 209 3 (some 12)))) (t_n 98 (t_l 95 (a_goto 99)) (t_n 99 (t_l 98 (a_push 1 (.int (-1)))) (t_l 99 (a_ist 0)))))) (t_n 104 (t_n 102 (t_n 101 (t_l 100 (a_push 1 (.int 0))) (t_l 101 (a_istore 5 1 2))) (t_n 103 (t_l 102 (a_push 1 (.int 0))) (t_l 103 (a_istore 5 1 3)))) (t_n 106 (t_n 105 (t_l 104 (a_iload 1 3)) (t_l 105 (a_aload 1 0))) (t_n 109 (t_l 106 (a_getf 12 4)) (t_n 112 (t_l 109 (a_ic 220 (fun x y => decide (y ≤ x)))) (t_l 112 (a_aload 1 0))))))))) (t_n 173 (t_n 141 (t_n 125 (t_n 120 (t_n 117 (t_n 116 (t_l 113 (a_getf 12 5)) (t_l 116 (a_iload 1 3))) (t_n 118 (t_l 117 (a_ild 0)) (t_l 118 (a_push 2 (.int 20))))) (t_n 122 (t_n 121 (t_l 120 (a_ii 1 (fun x y => x * y))) (t_l 121 (a_iload 1 1))) (t_n 123 (t_l 122 (a_ii 1 (fun x y => x + y))) (t_l 123 (a_istore 5 2 4))))) (t_n 133 (t_n 127 (t_n 126 (t_l 125 (a_iload 1 2)) (t_l 126 (a_aload 1 0))) (t_n 130 (t_l 127 (a_getf 12 24)) (t_l 130 (a_getf 13 9)))) (t_n 136 (t_n 135 (t_l 133 (a_iload 2 4)) (t_l 135 (a_ild 0))) (t_n 137 (t_l 136 (a_push 1 (.int 1))) (t_n 140 (t_l 137 (a_ic 144 (fun x y => !decide (x = y)))) (t_l 140 (a_push 1 (.int 1)))))))) (t_n 156 (t_n 147 (t_n 145 (t_n 144 (t_l 141 (a_goto 145)) (t_l 144 (a_push 1 (.int 0)))) (t_n 146 (t_l 145 (a_ii 1 (fun x y => x + y))) (t_l 146 (a_istore 5 1 2)))) (t_n 151 (t_n 148 (t_l 147 (a_aload 1 0)) (t_l 148 (a_getf 12 24))) (t_n 154 (t_l 151 (a_getf 13 9)) (t_l 154 (a_iload 2 4))))) (t_n 164 (t_n 158 (t_n 157 (t_l 156 (a_ild 0)) (t_l 157 (a_push 1 (.int 3)))) (t_n 161 (t_l 158 (a_ic 164 (fun x y => decide (x = y)))) (t_l 161 (a_goto 214)))) (t_n 168 (t_n 165 (t_l 164 (a_aload 1 0)) (t_l 165 (a_getf 12 9))) (t_n 169 (t_l 168 (a_iload 1 1)) (t_n 170 (t_l 169 (a_aload 1 0)) (t_l 170 (a_getf 12 9)))))))) (t_n 201 (t_n 188 (t_n 179 (t_n 175 (t_n 174 (t_l 173 (a_iload 1 1)) (t_l 174 (a_ild 0))) (t_n 176 (t_l 175 (a_aload 1 0)) (t_l 176 (a_getf 12 24)))) (t_n 184 (t_n 182 (t_l 179 (a_getf 13 10)) (t_l 182 (a_iload 2 4))) (t_n 185 (t_l 184 (a_ild 0)) (t_l 185 (a_inv true 292 2 none))))) (t_n 194 (t_n 190 (t_n 189 (t_l 188 (a_ist 0)) (t_l 189 (a_aload 1 0))) (t_n 193 (t_l 190 (a_getf 12 10)) (t_l 193 (a_iload 1 1)))) (t_n 198 (t_n 195 (t_l 194 (a_aload 1 0)) (t_l 195 (a_getf 12 10))) (t_n 199 (t_l 198 (a_iload 1 1)) (t_n 200 (t_l 199 (a_ild 0)) (t_l 200 (a_aload 1 0))))))) (t_n 221 (t_n 210 (t_n 207 (t_n 204 (t_l 201 (a_getf 12 24)) (t_l 204 (a_getf 13 11))) (t_n 209 (t_l 207 (a_iload 2 4)) (t_l 209 (a_ild 0)))) (t_n 214 (t_n 213 (t_l 210 (a_inv true 292 2 none)) (t_l 213 (a_ist 0))) (t_n 217 (t_l 214 (a_iinc 5 3 1)) (t_n 220 (t_l 217 (a_goto 104)) (t_l 220 (a_iload 1 2)))))) (t_n 227 (t_n 225 (t_n 222 (t_l 221 (a_push 1 (.int 1))) (t_l 222 (a_ic 233 (fun x y => decide (x ≤ y))))) (t_n 226 (t_l 225 (a_aload 1 0)) (t_l 226 (a_push 1 (.int 1))))) (t_n 229 (t_n 228 (t_l 227 (a_iload 1 1)) (t_l 228 (a_push 1 (.int (-1))))) (t_n 230 (t_l 229 (a_push 1 (.int (-1)))) (t_n 233 (t_l 230 (a_inv true 211 5 (some 12))) (t_l 233 a_vret)))))))))
set_option maxRecDepth 100000 in
theorem k_X12_settle (d : Nat) : ∀ pc, ev_Ok cX12_settle 5 [] RX12 lw_g lw_n lw_q vwCl false (ev_CO mt lw_g lw_n lw_q vwCl d) pc (g_X12_settle pc) := (ok_t_n (ok_t_n (ok_t_n (ok_t_n (ok_t_n (ok_t_n (ok_t_n (ok_t_l (ok_aload_n dX12_settle_0 rfl)) (ok_t_l (ok_getfield dX12_settle_1 (ci := 12) (kf := 11) rfl inGX12 (by decide) w_1868))) (ok_t_n (ok_t_l (ok_iload_n dX12_settle_4 rfl)) (ok_t_l (ok_iconst dX12_settle_5 rfl)))) (ok_t_n (ok_t_n (ok_t_l (ok_iastore dX12_settle_6)) (ok_t_l (ok_aload_n dX12_settle_7 rfl))) (ok_t_n (ok_t_l (ok_getfield dX12_settle_8 (ci := 12) (kf := 7) rfl inGX12 (by decide) w_1863)) (ok_t_l (ok_iload_n dX12_settle_11 rfl))))) (ok_t_n (ok_t_n (ok_t_n (ok_t_l (ok_aload_n dX12_settle_12 rfl)) (ok_t_l (ok_iload_n dX12_settle_13 rfl))) (ok_t_n (ok_t_l (ok_iconst dX12_settle_14 rfl)) (ok_t_l (ok_inv (run_V (y := 209) (n := 2) (ci := 12) dX12_settle_15 cz_209 gdG cc_209 ci_209 w_1795 cm_209 cs_209 cd_209 cl_209 rfl rfl))))) (ok_t_n (ok_t_n (ok_t_l (ok_iconst dX12_settle_18 rfl)) (ok_t_l (ok_icmp_eq dX12_settle_19 rfl))) (ok_t_n (ok_t_l (ok_iconst dX12_settle_22 rfl)) (ok_t_n (ok_t_l (ok_goto dX12_settle_23 rfl)) (ok_t_l (ok_aload_n dX12_settle_26 rfl))))))) (ok_t_n (ok_t_n (ok_t_n (ok_t_n (ok_t_l (ok_iload_n dX12_settle_27 rfl)) (ok_t_l (ok_iconst dX12_settle_28 rfl))) (ok_t_n (ok_t_l (ok_inv (run_V (y := 209) (n := 2) (ci := 12) dX12_settle_29 cz_209 gdG cc_209 ci_209 w_1795 cm_209 cs_209 cd_209 cl_209 rfl rfl))) (ok_t_l (ok_iconst dX12_settle_32 rfl)))) (ok_t_n (ok_t_n (ok_t_l (ok_icmp_eq dX12_settle_33 rfl)) (ok_t_l (ok_iconst dX12_settle_36 rfl))) (ok_t_n (ok_t_l (ok_goto dX12_settle_37 rfl)) (ok_t_l (ok_aload_n dX12_settle_40 rfl))))) (ok_t_n (ok_t_n (ok_t_n (ok_t_l (ok_iload_n dX12_settle_41 rfl)) (ok_t_l (ok_iconst dX12_settle_42 rfl))) (ok_t_n (ok_t_l (ok_inv (run_V (y := 209) (n := 2) (ci := 12) dX12_settle_43 cz_209 gdG cc_209 ci_209 w_1795 cm_209 cs_209 cd_209 cl_209 rfl rfl))) (ok_t_l (ok_iconst dX12_settle_46 rfl)))) (ok_t_n (ok_t_n (ok_t_l (ok_icmp_eq dX12_settle_47 rfl)) (ok_t_l (ok_iconst dX12_settle_50 rfl))) (ok_t_n (ok_t_l (ok_goto dX12_settle_51 rfl)) (ok_t_n (ok_t_l (ok_iconst dX12_settle_54 rfl)) (ok_t_l (ok_iastore dX12_settle_55)))))))) (ok_t_n (ok_t_n (ok_t_n (ok_t_n (ok_t_n (ok_t_l (ok_aload_n dX12_settle_56 rfl)) (ok_t_l (ok_getfield dX12_settle_57 (ci := 12) (kf := 8) rfl inGX12 (by decide) w_1864))) (ok_t_n (ok_t_l (ok_iload_n dX12_settle_60 rfl)) (ok_t_l (ok_aload_n dX12_settle_61 rfl)))) (ok_t_n (ok_t_n (ok_t_l (ok_getfield dX12_settle_62 (ci := 12) (kf := 7) rfl inGX12 (by decide) w_1863)) (ok_t_l (ok_iload_n dX12_settle_65 rfl))) (ok_t_n (ok_t_l (ok_iaload dX12_settle_66)) (ok_t_l (ok_if_ne dX12_settle_67 rfl))))) (ok_t_n (ok_t_n (ok_t_n (ok_t_l (ok_aload_n dX12_settle_70 rfl)) (ok_t_l (ok_iload_n dX12_settle_71 rfl))) (ok_t_n (ok_t_l (ok_iconst dX12_settle_72 rfl)) (ok_t_l (ok_inv (run_V (y := 209) (n := 2) (ci := 12) dX12_settle_73 cz_209 gdG cc_209 ci_209 w_1795 cm_209 cs_209 cd_209 cl_209 rfl rfl))))) (ok_t_n (ok_t_n (ok_t_l (ok_goto dX12_settle_76 rfl)) (ok_t_l (ok_aload_n dX12_settle_79 rfl))) (ok_t_n (ok_t_l (ok_getfield dX12_settle_80 (ci := 12) (kf := 7) rfl inGX12 (by decide) w_1863)) (ok_t_n (ok_t_l (ok_iload_n dX12_settle_83 rfl)) (ok_t_l (ok_iaload dX12_settle_84))))))) (ok_t_n (ok_t_n (ok_t_n (ok_t_n (ok_t_l (ok_iconst dX12_settle_85 rfl)) (ok_t_l (ok_icmp_ne dX12_settle_86 rfl))) (ok_t_n (ok_t_l (ok_aload_n dX12_settle_89 rfl)) (ok_t_l (ok_iload_n dX12_settle_90 rfl)))) (ok_t_n (ok_t_n (ok_t_l (ok_iconst dX12_settle_91 rfl)) (ok_t_l (ok_inv (run_V (y := 209) (n := 2) (ci := 12) dX12_settle_92 cz_209 gdG cc_209 ci_209 w_1795 cm_209 cs_209 cd_209 cl_209 rfl rfl)))) (ok_t_n (ok_t_l (ok_goto dX12_settle_95 rfl)) (ok_t_n (ok_t_l (ok_iconst dX12_settle_98 rfl)) (ok_t_l (ok_iastore dX12_settle_99)))))) (ok_t_n (ok_t_n (ok_t_n (ok_t_l (ok_iconst dX12_settle_100 rfl)) (ok_t_l (ok_istore_n dX12_settle_101 rfl))) (ok_t_n (ok_t_l (ok_iconst dX12_settle_102 rfl)) (ok_t_l (ok_istore_n dX12_settle_103 rfl)))) (ok_t_n (ok_t_n (ok_t_l (ok_iload_n dX12_settle_104 rfl)) (ok_t_l (ok_aload_n dX12_settle_105 rfl))) (ok_t_n (ok_t_l (ok_getfield dX12_settle_106 (ci := 12) (kf := 4) rfl inGX12 (by decide) w_1858)) (ok_t_n (ok_t_l (ok_icmp_ge dX12_settle_109 rfl)) (ok_t_l (ok_aload_n dX12_settle_112 rfl))))))))) (ok_t_n (ok_t_n (ok_t_n (ok_t_n (ok_t_n (ok_t_n (ok_t_l (ok_getfield dX12_settle_113 (ci := 12) (kf := 5) rfl inGX12 (by decide) w_1860)) (ok_t_l (ok_iload_n dX12_settle_116 rfl))) (ok_t_n (ok_t_l (ok_iaload dX12_settle_117)) (ok_t_l (ok_bipush dX12_settle_118 rfl)))) (ok_t_n (ok_t_n (ok_t_l (ok_imul dX12_settle_120)) (ok_t_l (ok_iload_n dX12_settle_121 rfl))) (ok_t_n (ok_t_l (ok_iadd dX12_settle_122)) (ok_t_l (ok_istore dX12_settle_123))))) (ok_t_n (ok_t_n (ok_t_n (ok_t_l (ok_iload_n dX12_settle_125 rfl)) (ok_t_l (ok_aload_n dX12_settle_126 rfl))) (ok_t_n (ok_t_l (ok_getfield dX12_settle_127 (ci := 12) (kf := 24) rfl inGX12 (by decide) w_1891)) (ok_t_l (ok_getfieldN dX12_settle_130 (ci := 13) (kf := 9) rfl inGX13 (by decide) (nst_38))))) (ok_t_n (ok_t_n (ok_t_l (ok_iload dX12_settle_133)) (ok_t_l (ok_iaload dX12_settle_135))) (ok_t_n (ok_t_l (ok_iconst dX12_settle_136 rfl)) (ok_t_n (ok_t_l (ok_icmp_ne dX12_settle_137 rfl)) (ok_t_l (ok_iconst dX12_settle_140 rfl))))))) (ok_t_n (ok_t_n (ok_t_n (ok_t_n (ok_t_l (ok_goto dX12_settle_141 rfl)) (ok_t_l (ok_iconst dX12_settle_144 rfl))) (ok_t_n (ok_t_l (ok_iadd dX12_settle_145)) (ok_t_l (ok_istore_n dX12_settle_146 rfl)))) (ok_t_n (ok_t_n (ok_t_l (ok_aload_n dX12_settle_147 rfl)) (ok_t_l (ok_getfield dX12_settle_148 (ci := 12) (kf := 24) rfl inGX12 (by decide) w_1891))) (ok_t_n (ok_t_l (ok_getfieldN dX12_settle_151 (ci := 13) (kf := 9) rfl inGX13 (by decide) (nst_38))) (ok_t_l (ok_iload dX12_settle_154))))) (ok_t_n (ok_t_n (ok_t_n (ok_t_l (ok_iaload dX12_settle_156)) (ok_t_l (ok_iconst dX12_settle_157 rfl))) (ok_t_n (ok_t_l (ok_icmp_eq dX12_settle_158 rfl)) (ok_t_l (ok_goto dX12_settle_161 rfl)))) (ok_t_n (ok_t_n (ok_t_l (ok_aload_n dX12_settle_164 rfl)) (ok_t_l (ok_getfield dX12_settle_165 (ci := 12) (kf := 9) rfl inGX12 (by decide) w_1866))) (ok_t_n (ok_t_l (ok_iload_n dX12_settle_168 rfl)) (ok_t_n (ok_t_l (ok_aload_n dX12_settle_169 rfl)) (ok_t_l (ok_getfield dX12_settle_170 (ci := 12) (kf := 9) rfl inGX12 (by decide) w_1866)))))))) (ok_t_n (ok_t_n (ok_t_n (ok_t_n (ok_t_n (ok_t_l (ok_iload_n dX12_settle_173 rfl)) (ok_t_l (ok_iaload dX12_settle_174))) (ok_t_n (ok_t_l (ok_aload_n dX12_settle_175 rfl)) (ok_t_l (ok_getfield dX12_settle_176 (ci := 12) (kf := 24) rfl inGX12 (by decide) w_1891)))) (ok_t_n (ok_t_n (ok_t_l (ok_getfieldN dX12_settle_179 (ci := 13) (kf := 10) rfl inGX13 (by decide) (nst_39))) (ok_t_l (ok_iload dX12_settle_182))) (ok_t_n (ok_t_l (ok_iaload dX12_settle_184)) (ok_t_l (ok_inv (run_S (y := 292) (n := 2) dX12_settle_185 cz_292 gdG cc_292 ci_292 w_1799 cm_292 cd_292 cl_292)))))) (ok_t_n (ok_t_n (ok_t_n (ok_t_l (ok_iastore dX12_settle_188)) (ok_t_l (ok_aload_n dX12_settle_189 rfl))) (ok_t_n (ok_t_l (ok_getfield dX12_settle_190 (ci := 12) (kf := 10) rfl inGX12 (by decide) w_1867)) (ok_t_l (ok_iload_n dX12_settle_193 rfl)))) (ok_t_n (ok_t_n (ok_t_l (ok_aload_n dX12_settle_194 rfl)) (ok_t_l (ok_getfield dX12_settle_195 (ci := 12) (kf := 10) rfl inGX12 (by decide) w_1867))) (ok_t_n (ok_t_l (ok_iload_n dX12_settle_198 rfl)) (ok_t_n (ok_t_l (ok_iaload dX12_settle_199)) (ok_t_l (ok_aload_n dX12_settle_200 rfl))))))) (ok_t_n (ok_t_n (ok_t_n (ok_t_n (ok_t_l (ok_getfield dX12_settle_201 (ci := 12) (kf := 24) rfl inGX12 (by decide) w_1891)) (ok_t_l (ok_getfieldN dX12_settle_204 (ci := 13) (kf := 11) rfl inGX13 (by decide) (nst_40)))) (ok_t_n (ok_t_l (ok_iload dX12_settle_207)) (ok_t_l (ok_iaload dX12_settle_209)))) (ok_t_n (ok_t_n (ok_t_l (ok_inv (run_S (y := 292) (n := 2) dX12_settle_210 cz_292 gdG cc_292 ci_292 w_1799 cm_292 cd_292 cl_292))) (ok_t_l (ok_iastore dX12_settle_213))) (ok_t_n (ok_t_l (ok_iinc dX12_settle_214 rfl)) (ok_t_n (ok_t_l (ok_goto dX12_settle_217 rfl)) (ok_t_l (ok_iload_n dX12_settle_220 rfl)))))) (ok_t_n (ok_t_n (ok_t_n (ok_t_l (ok_iconst dX12_settle_221 rfl)) (ok_t_l (ok_icmp_le dX12_settle_222 rfl))) (ok_t_n (ok_t_l (ok_aload_n dX12_settle_225 rfl)) (ok_t_l (ok_iconst dX12_settle_226 rfl)))) (ok_t_n (ok_t_n (ok_t_l (ok_iload_n dX12_settle_227 rfl)) (ok_t_l (ok_iconst dX12_settle_228 rfl))) (ok_t_n (ok_t_l (ok_iconst dX12_settle_229 rfl)) (ok_t_n (ok_t_l (ok_inv (run_V (y := 211) (n := 4) (ci := 12) dX12_settle_230 cz_211 gdG cc_211 ci_211 w_1800 cm_211 cs_211 cd_211 cl_211 rfl rfl))) (ok_t_l (ok_vreturn dX12_settle_233))))))))))
theorem dX12_fault_0 : decode cX12_fault 0 = .ok (.aload_n 0, 1) := by decide +kernel
theorem dX12_fault_1 : decode cX12_fault 1 = .ok (.getfield 56, 3) := by decide +kernel
theorem dX12_fault_4 : decode cX12_fault 4 = .ok (.arraylength, 1) := by decide +kernel
theorem dX12_fault_5 : decode cX12_fault 5 = .ok (.iconst 4, 1) := by decide +kernel
theorem dX12_fault_6 : decode cX12_fault 6 = .ok (.iadd, 1) := by decide +kernel
theorem dX12_fault_7 : decode cX12_fault 7 = .ok (.newarray .int, 2) := by decide +kernel
theorem dX12_fault_9 : decode cX12_fault 9 = .ok (.astore 5, 2) := by decide +kernel
theorem dX12_fault_11 : decode cX12_fault 11 = .ok (.aload_n 0, 1) := by decide +kernel
theorem dX12_fault_12 : decode cX12_fault 12 = .ok (.getfield 56, 3) := by decide +kernel
theorem dX12_fault_15 : decode cX12_fault 15 = .ok (.iconst 0, 1) := by decide +kernel
theorem dX12_fault_16 : decode cX12_fault 16 = .ok (.aload 5, 2) := by decide +kernel
theorem dX12_fault_18 : decode cX12_fault 18 = .ok (.iconst 0, 1) := by decide +kernel
theorem dX12_fault_19 : decode cX12_fault 19 = .ok (.aload_n 0, 1) := by decide +kernel
theorem dX12_fault_20 : decode cX12_fault 20 = .ok (.getfield 56, 3) := by decide +kernel
theorem dX12_fault_23 : decode cX12_fault 23 = .ok (.arraylength, 1) := by decide +kernel
theorem dX12_fault_24 : decode cX12_fault 24 = .ok (.invokestatic 160, 3) := by decide +kernel
theorem dX12_fault_27 : decode cX12_fault 27 = .ok (.aload 5, 2) := by decide +kernel
theorem dX12_fault_29 : decode cX12_fault 29 = .ok (.iconst 4, 1) := by decide +kernel
theorem dX12_fault_30 : decode cX12_fault 30 = .ok (.aload_n 0, 1) := by decide +kernel
theorem dX12_fault_31 : decode cX12_fault 31 = .ok (.getfield 166, 3) := by decide +kernel
theorem dX12_fault_34 : decode cX12_fault 34 = .ok (.imul, 1) := by decide +kernel
theorem dX12_fault_35 : decode cX12_fault 35 = .ok (.iload_n 1, 1) := by decide +kernel
theorem dX12_fault_36 : decode cX12_fault 36 = .ok (.iastore, 1) := by decide +kernel
theorem dX12_fault_37 : decode cX12_fault 37 = .ok (.aload 5, 2) := by decide +kernel
theorem dX12_fault_39 : decode cX12_fault 39 = .ok (.iconst 4, 1) := by decide +kernel
theorem dX12_fault_40 : decode cX12_fault 40 = .ok (.aload_n 0, 1) := by decide +kernel
theorem dX12_fault_41 : decode cX12_fault 41 = .ok (.getfield 166, 3) := by decide +kernel
theorem dX12_fault_44 : decode cX12_fault 44 = .ok (.imul, 1) := by decide +kernel
theorem dX12_fault_45 : decode cX12_fault 45 = .ok (.iconst 1, 1) := by decide +kernel
theorem dX12_fault_46 : decode cX12_fault 46 = .ok (.iadd, 1) := by decide +kernel
theorem dX12_fault_47 : decode cX12_fault 47 = .ok (.iload_n 2, 1) := by decide +kernel
theorem dX12_fault_48 : decode cX12_fault 48 = .ok (.iastore, 1) := by decide +kernel
theorem dX12_fault_49 : decode cX12_fault 49 = .ok (.aload 5, 2) := by decide +kernel
theorem dX12_fault_51 : decode cX12_fault 51 = .ok (.iconst 4, 1) := by decide +kernel
theorem dX12_fault_52 : decode cX12_fault 52 = .ok (.aload_n 0, 1) := by decide +kernel
theorem dX12_fault_53 : decode cX12_fault 53 = .ok (.getfield 166, 3) := by decide +kernel
theorem dX12_fault_56 : decode cX12_fault 56 = .ok (.imul, 1) := by decide +kernel
theorem dX12_fault_57 : decode cX12_fault 57 = .ok (.iconst 2, 1) := by decide +kernel
theorem dX12_fault_58 : decode cX12_fault 58 = .ok (.iadd, 1) := by decide +kernel
theorem dX12_fault_59 : decode cX12_fault 59 = .ok (.iload_n 3, 1) := by decide +kernel
theorem dX12_fault_60 : decode cX12_fault 60 = .ok (.iastore, 1) := by decide +kernel
theorem dX12_fault_61 : decode cX12_fault 61 = .ok (.aload 5, 2) := by decide +kernel
theorem dX12_fault_63 : decode cX12_fault 63 = .ok (.iconst 4, 1) := by decide +kernel
theorem dX12_fault_64 : decode cX12_fault 64 = .ok (.aload_n 0, 1) := by decide +kernel
theorem dX12_fault_65 : decode cX12_fault 65 = .ok (.getfield 166, 3) := by decide +kernel
theorem dX12_fault_68 : decode cX12_fault 68 = .ok (.imul, 1) := by decide +kernel
theorem dX12_fault_69 : decode cX12_fault 69 = .ok (.iconst 3, 1) := by decide +kernel
theorem dX12_fault_70 : decode cX12_fault 70 = .ok (.iadd, 1) := by decide +kernel
theorem dX12_fault_71 : decode cX12_fault 71 = .ok (.iload 4, 2) := by decide +kernel
theorem dX12_fault_73 : decode cX12_fault 73 = .ok (.iastore, 1) := by decide +kernel
theorem dX12_fault_74 : decode cX12_fault 74 = .ok (.aload_n 0, 1) := by decide +kernel
theorem dX12_fault_75 : decode cX12_fault 75 = .ok (.aload 5, 2) := by decide +kernel
theorem dX12_fault_77 : decode cX12_fault 77 = .ok (.putfield 56, 3) := by decide +kernel
theorem dX12_fault_80 : decode cX12_fault 80 = .ok (.aload_n 0, 1) := by decide +kernel
theorem dX12_fault_81 : decode cX12_fault 81 = .ok (.dup, 1) := by decide +kernel
theorem dX12_fault_82 : decode cX12_fault 82 = .ok (.getfield 166, 3) := by decide +kernel
theorem dX12_fault_85 : decode cX12_fault 85 = .ok (.iconst 1, 1) := by decide +kernel
theorem dX12_fault_86 : decode cX12_fault 86 = .ok (.iadd, 1) := by decide +kernel
theorem dX12_fault_87 : decode cX12_fault 87 = .ok (.putfield 166, 3) := by decide +kernel
theorem dX12_fault_90 : decode cX12_fault 90 = .ok (.return_, 1) := by decide +kernel
def g_X12_fault : Nat → EA := (t_n 47 (t_n 24 (t_n 11 (t_n 5 (t_n 1 (t_l 0 (a_aload 1 0)) (t_n 4 (t_l 1 (a_getf 12 22)) (t_l 4 a_alen))) (t_n 7 (t_n 6 (t_l 5 (a_push 1 (.int 4))) (t_l 6 (a_ii 1 (fun x y => x + y)))) (t_n 9 (t_l 7 (a_newa 0)) (t_l 9 (a_astore 6 2 5))))) (t_n 18 (t_n 15 (t_n 12 (t_l 11 (a_aload 1 0)) (t_l 12 (a_getf 12 22))) (t_n 16 (t_l 15 (a_push 1 (.int 0))) (t_l 16 (a_aload 2 5)))) (t_n 20 (t_n 19 (t_l 18 (a_push 1 (.int 0))) (t_l 19 (a_aload 1 0))) (t_n 23 (t_l 20 (a_getf 12 22)) (t_l 23 a_alen))))) (t_n 36 (t_n 30 (t_n 27 (t_l 24 (a_copy 0)) (t_n 29 (t_l 27 (a_aload 2 5)) (t_l 29 (a_push 1 (.int 4))))) (t_n 34 (t_n 31 (t_l 30 (a_aload 1 0)) (t_l 31 (a_getf 12 21))) (t_n 35 (t_l 34 (a_ii 1 (fun x y => x * y))) (t_l 35 (a_iload 1 1))))) (t_n 41 (t_n 39 (t_n 37 (t_l 36 (a_ist 0)) (t_l 37 (a_aload 2 5))) (t_n 40 (t_l 39 (a_push 1 (.int 4))) (t_l 40 (a_aload 1 0)))) (t_n 45 (t_n 44 (t_l 41 (a_getf 12 21)) (t_l 44 (a_ii 1 (fun x y => x * y)))) (t_n 46 (t_l 45 (a_push 1 (.int 1))) (t_l 46 (a_ii 1 (fun x y => x + y)))))))) (t_n 68 (t_n 57 (t_n 51 (t_n 48 (t_l 47 (a_iload 1 2)) (t_n 49 (t_l 48 (a_ist 0)) (t_l 49 (a_aload 2 5)))) (t_n 53 (t_n 52 (t_l 51 (a_push 1 (.int 4))) (t_l 52 (a_aload 1 0))) (t_n 56 (t_l 53 (a_getf 12 21)) (t_l 56 (a_ii 1 (fun x y => x * y)))))) (t_n 61 (t_n 59 (t_n 58 (t_l 57 (a_push 1 (.int 2))) (t_l 58 (a_ii 1 (fun x y => x + y)))) (t_n 60 (t_l 59 (a_iload 1 3)) (t_l 60 (a_ist 0)))) (t_n 64 (t_n 63 (t_l 61 (a_aload 2 5)) (t_l 63 (a_push 1 (.int 4)))) (t_n 65 (t_l 64 (a_aload 1 0)) (t_l 65 (a_getf 12 21)))))) (t_n 77 (t_n 71 (t_n 69 (t_l 68 (a_ii 1 (fun x y => x * y))) (t_n 70 (t_l 69 (a_push 1 (.int 3))) (t_l 70 (a_ii 1 (fun x y => x + y))))) (t_n 74 (t_n 73 (t_l 71 (a_iload 2 4)) (t_l 73 (a_ist 0))) (t_n 75 (t_l 74 (a_aload 1 0)) (t_l 75 (a_aload 2 5))))) (t_n 85 (t_n 81 (t_n 80 (t_l 77 (a_putf 9 12 22)) (t_l 80 (a_aload 1 0))) (t_n 82 (t_l 81 a_dup) (t_l 82 (a_getf 12 21)))) (t_n 87 (t_n 86 (t_l 85 (a_push 1 (.int 1))) (t_l 86 (a_ii 1 (fun x y => x + y)))) (t_n 90 (t_l 87 (a_putf 0 12 21)) (t_l 90 a_vret)))))))
set_option maxRecDepth 100000 in
theorem k_X12_fault (d : Nat) : ∀ pc, ev_Ok cX12_fault 6 [] RX12 lw_g lw_n lw_q vwCl false (ev_CO mt lw_g lw_n lw_q vwCl d) pc (g_X12_fault pc) := (ok_t_n (ok_t_n (ok_t_n (ok_t_n (ok_t_n (ok_t_l (ok_aload_n dX12_fault_0 rfl)) (ok_t_n (ok_t_l (ok_getfield dX12_fault_1 (ci := 12) (kf := 22) rfl inGX12 (by decide) w_1887)) (ok_t_l (ok_arraylength dX12_fault_4)))) (ok_t_n (ok_t_n (ok_t_l (ok_iconst dX12_fault_5 rfl)) (ok_t_l (ok_iadd dX12_fault_6))) (ok_t_n (ok_t_l (ok_newint dX12_fault_7 w_152)) (ok_t_l (ok_astore dX12_fault_9))))) (ok_t_n (ok_t_n (ok_t_n (ok_t_l (ok_aload_n dX12_fault_11 rfl)) (ok_t_l (ok_getfield dX12_fault_12 (ci := 12) (kf := 22) rfl inGX12 (by decide) w_1887))) (ok_t_n (ok_t_l (ok_iconst dX12_fault_15 rfl)) (ok_t_l (ok_aload dX12_fault_16)))) (ok_t_n (ok_t_n (ok_t_l (ok_iconst dX12_fault_18 rfl)) (ok_t_l (ok_aload_n dX12_fault_19 rfl))) (ok_t_n (ok_t_l (ok_getfield dX12_fault_20 (ci := 12) (kf := 22) rfl inGX12 (by decide) w_1887)) (ok_t_l (ok_arraylength dX12_fault_23)))))) (ok_t_n (ok_t_n (ok_t_n (ok_t_l (ok_copyi dX12_fault_24 w_1804 w_1806 w_1805 w_106 ev_CO.small2)) (ok_t_n (ok_t_l (ok_aload dX12_fault_27)) (ok_t_l (ok_iconst dX12_fault_29 rfl)))) (ok_t_n (ok_t_n (ok_t_l (ok_aload_n dX12_fault_30 rfl)) (ok_t_l (ok_getfield dX12_fault_31 (ci := 12) (kf := 21) rfl inGX12 (by decide) w_1885))) (ok_t_n (ok_t_l (ok_imul dX12_fault_34)) (ok_t_l (ok_iload_n dX12_fault_35 rfl))))) (ok_t_n (ok_t_n (ok_t_n (ok_t_l (ok_iastore dX12_fault_36)) (ok_t_l (ok_aload dX12_fault_37))) (ok_t_n (ok_t_l (ok_iconst dX12_fault_39 rfl)) (ok_t_l (ok_aload_n dX12_fault_40 rfl)))) (ok_t_n (ok_t_n (ok_t_l (ok_getfield dX12_fault_41 (ci := 12) (kf := 21) rfl inGX12 (by decide) w_1885)) (ok_t_l (ok_imul dX12_fault_44))) (ok_t_n (ok_t_l (ok_iconst dX12_fault_45 rfl)) (ok_t_l (ok_iadd dX12_fault_46))))))) (ok_t_n (ok_t_n (ok_t_n (ok_t_n (ok_t_l (ok_iload_n dX12_fault_47 rfl)) (ok_t_n (ok_t_l (ok_iastore dX12_fault_48)) (ok_t_l (ok_aload dX12_fault_49)))) (ok_t_n (ok_t_n (ok_t_l (ok_iconst dX12_fault_51 rfl)) (ok_t_l (ok_aload_n dX12_fault_52 rfl))) (ok_t_n (ok_t_l (ok_getfield dX12_fault_53 (ci := 12) (kf := 21) rfl inGX12 (by decide) w_1885)) (ok_t_l (ok_imul dX12_fault_56))))) (ok_t_n (ok_t_n (ok_t_n (ok_t_l (ok_iconst dX12_fault_57 rfl)) (ok_t_l (ok_iadd dX12_fault_58))) (ok_t_n (ok_t_l (ok_iload_n dX12_fault_59 rfl)) (ok_t_l (ok_iastore dX12_fault_60)))) (ok_t_n (ok_t_n (ok_t_l (ok_aload dX12_fault_61)) (ok_t_l (ok_iconst dX12_fault_63 rfl))) (ok_t_n (ok_t_l (ok_aload_n dX12_fault_64 rfl)) (ok_t_l (ok_getfield dX12_fault_65 (ci := 12) (kf := 21) rfl inGX12 (by decide) w_1885)))))) (ok_t_n (ok_t_n (ok_t_n (ok_t_l (ok_imul dX12_fault_68)) (ok_t_n (ok_t_l (ok_iconst dX12_fault_69 rfl)) (ok_t_l (ok_iadd dX12_fault_70)))) (ok_t_n (ok_t_n (ok_t_l (ok_iload dX12_fault_71)) (ok_t_l (ok_iastore dX12_fault_73))) (ok_t_n (ok_t_l (ok_aload_n dX12_fault_74 rfl)) (ok_t_l (ok_aload dX12_fault_75))))) (ok_t_n (ok_t_n (ok_t_n (ok_t_l (ok_putfield dX12_fault_77 (ci := 12) (kf := 22) rfl inGX12 (by decide) tyX12_ok nmX12 rfl w_1887 rfl)) (ok_t_l (ok_aload_n dX12_fault_80 rfl))) (ok_t_n (ok_t_l (ok_dup dX12_fault_81)) (ok_t_l (ok_getfield dX12_fault_82 (ci := 12) (kf := 21) rfl inGX12 (by decide) w_1885)))) (ok_t_n (ok_t_n (ok_t_l (ok_iconst dX12_fault_85 rfl)) (ok_t_l (ok_iadd dX12_fault_86))) (ok_t_n (ok_t_l (ok_putfield dX12_fault_87 (ci := 12) (kf := 21) rfl inGX12 (by decide) tyX12_ok nmX12 rfl w_1885 rfl)) (ok_t_l (ok_vreturn dX12_fault_90))))))))
theorem dX12_sectionOf_0 : decode cX12_sectionOf 0 = .ok (.aload_n 0, 1) := by decide +kernel
theorem dX12_sectionOf_1 : decode cX12_sectionOf 1 = .ok (.getfield 25, 3) := by decide +kernel
theorem dX12_sectionOf_4 : decode cX12_sectionOf 4 = .ok (.iload_n 1, 1) := by decide +kernel
theorem dX12_sectionOf_5 : decode cX12_sectionOf 5 = .ok (.iaload, 1) := by decide +kernel
theorem dX12_sectionOf_6 : decode cX12_sectionOf 6 = .ok (.iconst (-1), 1) := by decide +kernel
theorem dX12_sectionOf_7 : decode cX12_sectionOf 7 = .ok (.if_icmp .ne 7, 3) := by decide +kernel
theorem dX12_sectionOf_10 : decode cX12_sectionOf 10 = .ok (.iconst (-1), 1) := by decide +kernel
theorem dX12_sectionOf_11 : decode cX12_sectionOf 11 = .ok (.goto 22, 3) := by decide +kernel
theorem dX12_sectionOf_14 : decode cX12_sectionOf 14 = .ok (.aload_n 0, 1) := by decide +kernel
theorem dX12_sectionOf_15 : decode cX12_sectionOf 15 = .ok (.getfield 3, 3) := by decide +kernel
theorem dX12_sectionOf_18 : decode cX12_sectionOf 18 = .ok (.getfield 145, 3) := by decide +kernel
theorem dX12_sectionOf_21 : decode cX12_sectionOf 21 = .ok (.aload_n 0, 1) := by decide +kernel
theorem dX12_sectionOf_22 : decode cX12_sectionOf 22 = .ok (.getfield 25, 3) := by decide +kernel
theorem dX12_sectionOf_25 : decode cX12_sectionOf 25 = .ok (.iload_n 1, 1) := by decide +kernel
theorem dX12_sectionOf_26 : decode cX12_sectionOf 26 = .ok (.iaload, 1) := by decide +kernel
theorem dX12_sectionOf_27 : decode cX12_sectionOf 27 = .ok (.bipush 20, 2) := by decide +kernel
theorem dX12_sectionOf_29 : decode cX12_sectionOf 29 = .ok (.imul, 1) := by decide +kernel
theorem dX12_sectionOf_30 : decode cX12_sectionOf 30 = .ok (.iload_n 1, 1) := by decide +kernel
theorem dX12_sectionOf_31 : decode cX12_sectionOf 31 = .ok (.iadd, 1) := by decide +kernel
theorem dX12_sectionOf_32 : decode cX12_sectionOf 32 = .ok (.iaload, 1) := by decide +kernel
theorem dX12_sectionOf_33 : decode cX12_sectionOf 33 = .ok (.ireturn, 1) := by decide +kernel
def g_X12_sectionOf : Nat → EA := (t_n 18 (t_n 7 (t_n 4 (t_n 1 (t_l 0 (a_aload 1 0)) (t_l 1 (a_getf 12 8))) (t_n 5 (t_l 4 (a_iload 1 1)) (t_n 6 (t_l 5 (a_ild 0)) (t_l 6 (a_push 1 (.int (-1))))))) (t_n 11 (t_n 10 (t_l 7 (a_ic 14 (fun x y => !decide (x = y)))) (t_l 10 (a_push 1 (.int (-1))))) (t_n 14 (t_l 11 (a_goto 33)) (t_n 15 (t_l 14 (a_aload 1 0)) (t_l 15 (a_getf 12 24)))))) (t_n 27 (t_n 22 (t_n 21 (t_l 18 (a_getf 13 10)) (t_l 21 (a_aload 1 0))) (t_n 25 (t_l 22 (a_getf 12 8)) (t_n 26 (t_l 25 (a_iload 1 1)) (t_l 26 (a_ild 0))))) (t_n 31 (t_n 29 (t_l 27 (a_push 2 (.int 20))) (t_n 30 (t_l 29 (a_ii 1 (fun x y => x * y))) (t_l 30 (a_iload 1 1)))) (t_n 32 (t_l 31 (a_ii 1 (fun x y => x + y))) (t_n 33 (t_l 32 (a_ild 0)) (t_l 33 a_iret))))))
set_option maxRecDepth 100000 in
theorem k_X12_sectionOf (d : Nat) : ∀ pc, ev_Ok cX12_sectionOf 2 [] RX12 lw_g lw_n lw_q vwCl false (ev_CO mt lw_g lw_n lw_q vwCl d) pc (g_X12_sectionOf pc) := (ok_t_n (ok_t_n (ok_t_n (ok_t_n (ok_t_l (ok_aload_n dX12_sectionOf_0 rfl)) (ok_t_l (ok_getfield dX12_sectionOf_1 (ci := 12) (kf := 8) rfl inGX12 (by decide) w_1864))) (ok_t_n (ok_t_l (ok_iload_n dX12_sectionOf_4 rfl)) (ok_t_n (ok_t_l (ok_iaload dX12_sectionOf_5)) (ok_t_l (ok_iconst dX12_sectionOf_6 rfl))))) (ok_t_n (ok_t_n (ok_t_l (ok_icmp_ne dX12_sectionOf_7 rfl)) (ok_t_l (ok_iconst dX12_sectionOf_10 rfl))) (ok_t_n (ok_t_l (ok_goto dX12_sectionOf_11 rfl)) (ok_t_n (ok_t_l (ok_aload_n dX12_sectionOf_14 rfl)) (ok_t_l (ok_getfield dX12_sectionOf_15 (ci := 12) (kf := 24) rfl inGX12 (by decide) w_1891)))))) (ok_t_n (ok_t_n (ok_t_n (ok_t_l (ok_getfieldN dX12_sectionOf_18 (ci := 13) (kf := 10) rfl inGX13 (by decide) (nst_39))) (ok_t_l (ok_aload_n dX12_sectionOf_21 rfl))) (ok_t_n (ok_t_l (ok_getfield dX12_sectionOf_22 (ci := 12) (kf := 8) rfl inGX12 (by decide) w_1864)) (ok_t_n (ok_t_l (ok_iload_n dX12_sectionOf_25 rfl)) (ok_t_l (ok_iaload dX12_sectionOf_26))))) (ok_t_n (ok_t_n (ok_t_l (ok_bipush dX12_sectionOf_27 rfl)) (ok_t_n (ok_t_l (ok_imul dX12_sectionOf_29)) (ok_t_l (ok_iload_n dX12_sectionOf_30 rfl)))) (ok_t_n (ok_t_l (ok_iadd dX12_sectionOf_31)) (ok_t_n (ok_t_l (ok_iaload dX12_sectionOf_32)) (ok_t_l (ok_ireturn dX12_sectionOf_33)))))))
theorem dX12_reachName_0 : decode cX12_reachName 0 = .ok (.aload_n 0, 1) := by decide +kernel
theorem dX12_reachName_1 : decode cX12_reachName 1 = .ok (.getfield 40, 3) := by decide +kernel
theorem dX12_reachName_4 : decode cX12_reachName 4 = .ok (.iload_n 1, 1) := by decide +kernel
theorem dX12_reachName_5 : decode cX12_reachName 5 = .ok (.baload, 1) := by decide +kernel
theorem dX12_reachName_6 : decode cX12_reachName 6 = .ok (.istore_n 2, 1) := by decide +kernel
theorem dX12_reachName_7 : decode cX12_reachName 7 = .ok (.aload_n 0, 1) := by decide +kernel
theorem dX12_reachName_8 : decode cX12_reachName 8 = .ok (.getfield 40, 3) := by decide +kernel
theorem dX12_reachName_11 : decode cX12_reachName 11 = .ok (.iload_n 1, 1) := by decide +kernel
theorem dX12_reachName_12 : decode cX12_reachName 12 = .ok (.iconst 1, 1) := by decide +kernel
theorem dX12_reachName_13 : decode cX12_reachName 13 = .ok (.bastore, 1) := by decide +kernel
theorem dX12_reachName_14 : decode cX12_reachName 14 = .ok (.aload_n 0, 1) := by decide +kernel
theorem dX12_reachName_15 : decode cX12_reachName 15 = .ok (.iload_n 1, 1) := by decide +kernel
theorem dX12_reachName_16 : decode cX12_reachName 16 = .ok (.invokevirtual 169, 3) := by decide +kernel
theorem dX12_reachName_19 : decode cX12_reachName 19 = .ok (.istore_n 3, 1) := by decide +kernel
theorem dX12_reachName_20 : decode cX12_reachName 20 = .ok (.iload_n 3, 1) := by decide +kernel
theorem dX12_reachName_21 : decode cX12_reachName 21 = .ok (.iconst (-1), 1) := by decide +kernel
theorem dX12_reachName_22 : decode cX12_reachName 22 = .ok (.if_icmp .eq 16, 3) := by decide +kernel
theorem dX12_reachName_25 : decode cX12_reachName 25 = .ok (.aload_n 0, 1) := by decide +kernel
theorem dX12_reachName_26 : decode cX12_reachName 26 = .ok (.getfield 44, 3) := by decide +kernel
theorem dX12_reachName_29 : decode cX12_reachName 29 = .ok (.iload_n 3, 1) := by decide +kernel
theorem dX12_reachName_30 : decode cX12_reachName 30 = .ok (.baload, 1) := by decide +kernel
theorem dX12_reachName_31 : decode cX12_reachName 31 = .ok (.ifCond .ne 7, 3) := by decide +kernel
theorem dX12_reachName_34 : decode cX12_reachName 34 = .ok (.iconst 1, 1) := by decide +kernel
theorem dX12_reachName_35 : decode cX12_reachName 35 = .ok (.goto 4, 3) := by decide +kernel
theorem dX12_reachName_38 : decode cX12_reachName 38 = .ok (.iconst 0, 1) := by decide +kernel
theorem dX12_reachName_39 : decode cX12_reachName 39 = .ok (.istore 4, 2) := by decide +kernel
theorem dX12_reachName_41 : decode cX12_reachName 41 = .ok (.iload 4, 2) := by decide +kernel
theorem dX12_reachName_43 : decode cX12_reachName 43 = .ok (.ifCond .eq 10, 3) := by decide +kernel
theorem dX12_reachName_46 : decode cX12_reachName 46 = .ok (.aload_n 0, 1) := by decide +kernel
theorem dX12_reachName_47 : decode cX12_reachName 47 = .ok (.getfield 44, 3) := by decide +kernel
theorem dX12_reachName_50 : decode cX12_reachName 50 = .ok (.iload_n 3, 1) := by decide +kernel
theorem dX12_reachName_51 : decode cX12_reachName 51 = .ok (.iconst 1, 1) := by decide +kernel
theorem dX12_reachName_52 : decode cX12_reachName 52 = .ok (.bastore, 1) := by decide +kernel
theorem dX12_reachName_53 : decode cX12_reachName 53 = .ok (.iload 4, 2) := by decide +kernel
theorem dX12_reachName_55 : decode cX12_reachName 55 = .ok (.ifCond .ne 7, 3) := by decide +kernel
theorem dX12_reachName_58 : decode cX12_reachName 58 = .ok (.iload_n 2, 1) := by decide +kernel
theorem dX12_reachName_59 : decode cX12_reachName 59 = .ok (.ifCond .ne 7, 3) := by decide +kernel
theorem dX12_reachName_62 : decode cX12_reachName 62 = .ok (.iconst 1, 1) := by decide +kernel
theorem dX12_reachName_63 : decode cX12_reachName 63 = .ok (.goto 4, 3) := by decide +kernel
theorem dX12_reachName_66 : decode cX12_reachName 66 = .ok (.iconst 0, 1) := by decide +kernel
theorem dX12_reachName_67 : decode cX12_reachName 67 = .ok (.ireturn, 1) := by decide +kernel
def g_X12_reachName : Nat → EA := (t_n 30 (t_n 14 (t_n 7 (t_n 4 (t_n 1 (t_l 0 (a_aload 1 0)) (t_l 1 (a_getf 12 13))) (t_n 5 (t_l 4 (a_iload 1 1)) (t_n 6 (t_l 5 (a_ild 1)) (t_l 6 (a_istore 5 1 2))))) (t_n 11 (t_n 8 (t_l 7 (a_aload 1 0)) (t_l 8 (a_getf 12 13))) (t_n 12 (t_l 11 (a_iload 1 1)) (t_n 13 (t_l 12 (a_push 1 (.int 1))) (t_l 13 (a_ist 1)))))) (t_n 21 (t_n 16 (t_n 15 (t_l 14 (a_aload 1 0)) (t_l 15 (a_iload 1 1))) (t_n 19 (t_l 16 (a_inv true 212 2 (some 12))) (t_n 20 (t_l 19 (a_istore 5 1 3)) (t_l 20 (a_iload 1 3))))) (t_n 25 (t_n 22 (t_l 21 (a_push 1 (.int (-1)))) (t_l 22 (a_ic 38 (fun x y => decide (x = y))))) (t_n 26 (t_l 25 (a_aload 1 0)) (t_n 29 (t_l 26 (a_getf 12 14)) (t_l 29 (a_iload 1 3))))))) (t_n 50 (t_n 39 (t_n 34 (t_n 31 (t_l 30 (a_ild 1)) (t_l 31 (a_if 38 (fun x => !decide (x = 0))))) (t_n 35 (t_l 34 (a_push 1 (.int 1))) (t_n 38 (t_l 35 (a_goto 39)) (t_l 38 (a_push 1 (.int 0)))))) (t_n 43 (t_n 41 (t_l 39 (a_istore 5 2 4)) (t_l 41 (a_iload 2 4))) (t_n 46 (t_l 43 (a_if 53 (fun x => decide (x = 0)))) (t_n 47 (t_l 46 (a_aload 1 0)) (t_l 47 (a_getf 12 14)))))) (t_n 58 (t_n 52 (t_n 51 (t_l 50 (a_iload 1 3)) (t_l 51 (a_push 1 (.int 1)))) (t_n 53 (t_l 52 (a_ist 1)) (t_n 55 (t_l 53 (a_iload 2 4)) (t_l 55 (a_if 62 (fun x => !decide (x = 0))))))) (t_n 63 (t_n 59 (t_l 58 (a_iload 1 2)) (t_n 62 (t_l 59 (a_if 66 (fun x => !decide (x = 0)))) (t_l 62 (a_push 1 (.int 1))))) (t_n 66 (t_l 63 (a_goto 67)) (t_n 67 (t_l 66 (a_push 1 (.int 0))) (t_l 67 a_iret)))))))
set_option maxRecDepth 100000 in
theorem k_X12_reachName (d : Nat) : ∀ pc, ev_Ok cX12_reachName 5 [] RX12 lw_g lw_n lw_q vwCl false (ev_CO mt lw_g lw_n lw_q vwCl d) pc (g_X12_reachName pc) := (ok_t_n (ok_t_n (ok_t_n (ok_t_n (ok_t_n (ok_t_l (ok_aload_n dX12_reachName_0 rfl)) (ok_t_l (ok_getfield dX12_reachName_1 (ci := 12) (kf := 13) rfl inGX12 (by decide) w_1871))) (ok_t_n (ok_t_l (ok_iload_n dX12_reachName_4 rfl)) (ok_t_n (ok_t_l (ok_zaload dX12_reachName_5)) (ok_t_l (ok_istore_n dX12_reachName_6 rfl))))) (ok_t_n (ok_t_n (ok_t_l (ok_aload_n dX12_reachName_7 rfl)) (ok_t_l (ok_getfield dX12_reachName_8 (ci := 12) (kf := 13) rfl inGX12 (by decide) w_1871))) (ok_t_n (ok_t_l (ok_iload_n dX12_reachName_11 rfl)) (ok_t_n (ok_t_l (ok_iconst dX12_reachName_12 rfl)) (ok_t_l (ok_zastore dX12_reachName_13)))))) (ok_t_n (ok_t_n (ok_t_n (ok_t_l (ok_aload_n dX12_reachName_14 rfl)) (ok_t_l (ok_iload_n dX12_reachName_15 rfl))) (ok_t_n (ok_t_l (ok_inv (run_V (y := 212) (n := 1) (ci := 12) dX12_reachName_16 cz_212 gdG cc_212 ci_212 w_1815 cm_212 cs_212 cd_212 cl_212 rfl rfl))) (ok_t_n (ok_t_l (ok_istore_n dX12_reachName_19 rfl)) (ok_t_l (ok_iload_n dX12_reachName_20 rfl))))) (ok_t_n (ok_t_n (ok_t_l (ok_iconst dX12_reachName_21 rfl)) (ok_t_l (ok_icmp_eq dX12_reachName_22 rfl))) (ok_t_n (ok_t_l (ok_aload_n dX12_reachName_25 rfl)) (ok_t_n (ok_t_l (ok_getfield dX12_reachName_26 (ci := 12) (kf := 14) rfl inGX12 (by decide) w_1872)) (ok_t_l (ok_iload_n dX12_reachName_29 rfl))))))) (ok_t_n (ok_t_n (ok_t_n (ok_t_n (ok_t_l (ok_zaload dX12_reachName_30)) (ok_t_l (ok_if_ne dX12_reachName_31 rfl))) (ok_t_n (ok_t_l (ok_iconst dX12_reachName_34 rfl)) (ok_t_n (ok_t_l (ok_goto dX12_reachName_35 rfl)) (ok_t_l (ok_iconst dX12_reachName_38 rfl))))) (ok_t_n (ok_t_n (ok_t_l (ok_istore dX12_reachName_39)) (ok_t_l (ok_iload dX12_reachName_41))) (ok_t_n (ok_t_l (ok_if_eq dX12_reachName_43 rfl)) (ok_t_n (ok_t_l (ok_aload_n dX12_reachName_46 rfl)) (ok_t_l (ok_getfield dX12_reachName_47 (ci := 12) (kf := 14) rfl inGX12 (by decide) w_1872)))))) (ok_t_n (ok_t_n (ok_t_n (ok_t_l (ok_iload_n dX12_reachName_50 rfl)) (ok_t_l (ok_iconst dX12_reachName_51 rfl))) (ok_t_n (ok_t_l (ok_zastore dX12_reachName_52)) (ok_t_n (ok_t_l (ok_iload dX12_reachName_53)) (ok_t_l (ok_if_ne dX12_reachName_55 rfl))))) (ok_t_n (ok_t_n (ok_t_l (ok_iload_n dX12_reachName_58 rfl)) (ok_t_n (ok_t_l (ok_if_ne dX12_reachName_59 rfl)) (ok_t_l (ok_iconst dX12_reachName_62 rfl)))) (ok_t_n (ok_t_l (ok_goto dX12_reachName_63 rfl)) (ok_t_n (ok_t_l (ok_iconst dX12_reachName_66 rfl)) (ok_t_l (ok_ireturn dX12_reachName_67))))))))
theorem dX12_reachAll_0 : decode cX12_reachAll 0 = .ok (.aload_n 0, 1) := by decide +kernel
theorem dX12_reachAll_1 : decode cX12_reachAll 1 = .ok (.getfield 22, 3) := by decide +kernel
theorem dX12_reachAll_4 : decode cX12_reachAll 4 = .ok (.aload_n 0, 1) := by decide +kernel
theorem dX12_reachAll_5 : decode cX12_reachAll 5 = .ok (.getfield 62, 3) := by decide +kernel
theorem dX12_reachAll_8 : decode cX12_reachAll 8 = .ok (.iaload, 1) := by decide +kernel
theorem dX12_reachAll_9 : decode cX12_reachAll 9 = .ok (.iconst (-1), 1) := by decide +kernel
theorem dX12_reachAll_10 : decode cX12_reachAll 10 = .ok (.if_icmp .ne 17, 3) := by decide +kernel
theorem dX12_reachAll_13 : decode cX12_reachAll 13 = .ok (.aload_n 0, 1) := by decide +kernel
theorem dX12_reachAll_14 : decode cX12_reachAll 14 = .ok (.iconst 2, 1) := by decide +kernel
theorem dX12_reachAll_15 : decode cX12_reachAll 15 = .ok (.aload_n 0, 1) := by decide +kernel
theorem dX12_reachAll_16 : decode cX12_reachAll 16 = .ok (.getfield 62, 3) := by decide +kernel
theorem dX12_reachAll_19 : decode cX12_reachAll 19 = .ok (.iconst (-1), 1) := by decide +kernel
theorem dX12_reachAll_20 : decode cX12_reachAll 20 = .ok (.iconst (-1), 1) := by decide +kernel
theorem dX12_reachAll_21 : decode cX12_reachAll 21 = .ok (.invokevirtual 156, 3) := by decide +kernel
theorem dX12_reachAll_24 : decode cX12_reachAll 24 = .ok (.goto 12, 3) := by decide +kernel
theorem dX12_reachAll_27 : decode cX12_reachAll 27 = .ok (.aload_n 0, 1) := by decide +kernel
theorem dX12_reachAll_28 : decode cX12_reachAll 28 = .ok (.aload_n 0, 1) := by decide +kernel
theorem dX12_reachAll_29 : decode cX12_reachAll 29 = .ok (.getfield 62, 3) := by decide +kernel
theorem dX12_reachAll_32 : decode cX12_reachAll 32 = .ok (.invokevirtual 172, 3) := by decide +kernel
theorem dX12_reachAll_35 : decode cX12_reachAll 35 = .ok (.pop, 1) := by decide +kernel
theorem dX12_reachAll_36 : decode cX12_reachAll 36 = .ok (.iconst 0, 1) := by decide +kernel
theorem dX12_reachAll_37 : decode cX12_reachAll 37 = .ok (.istore_n 1, 1) := by decide +kernel
theorem dX12_reachAll_38 : decode cX12_reachAll 38 = .ok (.iload_n 1, 1) := by decide +kernel
theorem dX12_reachAll_39 : decode cX12_reachAll 39 = .ok (.aload_n 0, 1) := by decide +kernel
theorem dX12_reachAll_40 : decode cX12_reachAll 40 = .ok (.getfield 3, 3) := by decide +kernel
theorem dX12_reachAll_43 : decode cX12_reachAll 43 = .ok (.getfield 126, 3) := by decide +kernel
theorem dX12_reachAll_46 : decode cX12_reachAll 46 = .ok (.if_icmp .ge 53, 3) := by decide +kernel
theorem dX12_reachAll_49 : decode cX12_reachAll 49 = .ok (.aload_n 0, 1) := by decide +kernel
theorem dX12_reachAll_50 : decode cX12_reachAll 50 = .ok (.getfield 44, 3) := by decide +kernel
theorem dX12_reachAll_53 : decode cX12_reachAll 53 = .ok (.iload_n 1, 1) := by decide +kernel
theorem dX12_reachAll_54 : decode cX12_reachAll 54 = .ok (.dup2, 1) := by decide +kernel
theorem dX12_reachAll_55 : decode cX12_reachAll 55 = .ok (.baload, 1) := by decide +kernel
theorem dX12_reachAll_56 : decode cX12_reachAll 56 = .ok (.aload_n 0, 1) := by decide +kernel
theorem dX12_reachAll_57 : decode cX12_reachAll 57 = .ok (.getfield 19, 3) := by decide +kernel
theorem dX12_reachAll_60 : decode cX12_reachAll 60 = .ok (.aload_n 0, 1) := by decide +kernel
theorem dX12_reachAll_61 : decode cX12_reachAll 61 = .ok (.getfield 3, 3) := by decide +kernel
theorem dX12_reachAll_64 : decode cX12_reachAll 64 = .ok (.getfield 129, 3) := by decide +kernel
theorem dX12_reachAll_67 : decode cX12_reachAll 67 = .ok (.iload_n 1, 1) := by decide +kernel
theorem dX12_reachAll_68 : decode cX12_reachAll 68 = .ok (.iaload, 1) := by decide +kernel
theorem dX12_reachAll_69 : decode cX12_reachAll 69 = .ok (.iaload, 1) := by decide +kernel
theorem dX12_reachAll_70 : decode cX12_reachAll 70 = .ok (.iconst (-1), 1) := by decide +kernel
theorem dX12_reachAll_71 : decode cX12_reachAll 71 = .ok (.if_icmp .eq 19, 3) := by decide +kernel
theorem dX12_reachAll_74 : decode cX12_reachAll 74 = .ok (.aload_n 0, 1) := by decide +kernel
theorem dX12_reachAll_75 : decode cX12_reachAll 75 = .ok (.getfield 3, 3) := by decide +kernel
theorem dX12_reachAll_78 : decode cX12_reachAll 78 = .ok (.getfield 175, 3) := by decide +kernel
theorem dX12_reachAll_81 : decode cX12_reachAll 81 = .ok (.iload_n 1, 1) := by decide +kernel
theorem dX12_reachAll_82 : decode cX12_reachAll 82 = .ok (.baload, 1) := by decide +kernel
theorem dX12_reachAll_83 : decode cX12_reachAll 83 = .ok (.ifCond .eq 7, 3) := by decide +kernel
theorem dX12_reachAll_86 : decode cX12_reachAll 86 = .ok (.iconst 1, 1) := by decide +kernel
theorem dX12_reachAll_87 : decode cX12_reachAll 87 = .ok (.goto 4, 3) := by decide +kernel
theorem dX12_reachAll_90 : decode cX12_reachAll 90 = .ok (.iconst 0, 1) := by decide +kernel
theorem dX12_reachAll_91 : decode cX12_reachAll 91 = .ok (.ior, 1) := by decide +kernel
theorem dX12_reachAll_92 : decode cX12_reachAll 92 = .ok (.bastore, 1) := by decide +kernel
theorem dX12_reachAll_93 : decode cX12_reachAll 93 = .ok (.iinc 1 1, 3) := by decide +kernel
theorem dX12_reachAll_96 : decode cX12_reachAll 96 = .ok (.goto (-58), 3) := by decide +kernel
theorem dX12_reachAll_99 : decode cX12_reachAll 99 = .ok (.iconst 0, 1) := by decide +kernel
theorem dX12_reachAll_100 : decode cX12_reachAll 100 = .ok (.istore_n 1, 1) := by decide +kernel
theorem dX12_reachAll_101 : decode cX12_reachAll 101 = .ok (.iload_n 1, 1) := by decide +kernel
theorem dX12_reachAll_102 : decode cX12_reachAll 102 = .ok (.bipush 20, 2) := by decide +kernel
theorem dX12_reachAll_104 : decode cX12_reachAll 104 = .ok (.if_icmp .ge 64, 3) := by decide +kernel
theorem dX12_reachAll_107 : decode cX12_reachAll 107 = .ok (.aload_n 0, 1) := by decide +kernel
theorem dX12_reachAll_108 : decode cX12_reachAll 108 = .ok (.getfield 66, 3) := by decide +kernel
theorem dX12_reachAll_111 : decode cX12_reachAll 111 = .ok (.ifCond .eq 51, 3) := by decide +kernel
theorem dX12_reachAll_114 : decode cX12_reachAll 114 = .ok (.aload_n 0, 1) := by decide +kernel
theorem dX12_reachAll_115 : decode cX12_reachAll 115 = .ok (.getfield 22, 3) := by decide +kernel
theorem dX12_reachAll_118 : decode cX12_reachAll 118 = .ok (.iload_n 1, 1) := by decide +kernel
theorem dX12_reachAll_119 : decode cX12_reachAll 119 = .ok (.iaload, 1) := by decide +kernel
theorem dX12_reachAll_120 : decode cX12_reachAll 120 = .ok (.iconst (-1), 1) := by decide +kernel
theorem dX12_reachAll_121 : decode cX12_reachAll 121 = .ok (.if_icmp .eq 41, 3) := by decide +kernel
theorem dX12_reachAll_124 : decode cX12_reachAll 124 = .ok (.aload_n 0, 1) := by decide +kernel
theorem dX12_reachAll_125 : decode cX12_reachAll 125 = .ok (.getfield 22, 3) := by decide +kernel
theorem dX12_reachAll_128 : decode cX12_reachAll 128 = .ok (.iload_n 1, 1) := by decide +kernel
theorem dX12_reachAll_129 : decode cX12_reachAll 129 = .ok (.iaload, 1) := by decide +kernel
theorem dX12_reachAll_130 : decode cX12_reachAll 130 = .ok (.iconst 1, 1) := by decide +kernel
theorem dX12_reachAll_131 : decode cX12_reachAll 131 = .ok (.if_icmp .eq 25, 3) := by decide +kernel
theorem dX12_reachAll_134 : decode cX12_reachAll 134 = .ok (.aload_n 0, 1) := by decide +kernel
theorem dX12_reachAll_135 : decode cX12_reachAll 135 = .ok (.getfield 3, 3) := by decide +kernel
theorem dX12_reachAll_138 : decode cX12_reachAll 138 = .ok (.getfield 178, 3) := by decide +kernel
theorem dX12_reachAll_141 : decode cX12_reachAll 141 = .ok (.aload_n 0, 1) := by decide +kernel
theorem dX12_reachAll_142 : decode cX12_reachAll 142 = .ok (.getfield 25, 3) := by decide +kernel
theorem dX12_reachAll_145 : decode cX12_reachAll 145 = .ok (.iload_n 1, 1) := by decide +kernel
theorem dX12_reachAll_146 : decode cX12_reachAll 146 = .ok (.iaload, 1) := by decide +kernel
theorem dX12_reachAll_147 : decode cX12_reachAll 147 = .ok (.bipush 20, 2) := by decide +kernel
theorem dX12_reachAll_149 : decode cX12_reachAll 149 = .ok (.imul, 1) := by decide +kernel
theorem dX12_reachAll_150 : decode cX12_reachAll 150 = .ok (.iload_n 1, 1) := by decide +kernel
theorem dX12_reachAll_151 : decode cX12_reachAll 151 = .ok (.iadd, 1) := by decide +kernel
theorem dX12_reachAll_152 : decode cX12_reachAll 152 = .ok (.baload, 1) := by decide +kernel
theorem dX12_reachAll_153 : decode cX12_reachAll 153 = .ok (.ifCond .ne 9, 3) := by decide +kernel
theorem dX12_reachAll_156 : decode cX12_reachAll 156 = .ok (.aload_n 0, 1) := by decide +kernel
theorem dX12_reachAll_157 : decode cX12_reachAll 157 = .ok (.iload_n 1, 1) := by decide +kernel
theorem dX12_reachAll_158 : decode cX12_reachAll 158 = .ok (.invokevirtual 172, 3) := by decide +kernel
theorem dX12_reachAll_161 : decode cX12_reachAll 161 = .ok (.pop, 1) := by decide +kernel
theorem dX12_reachAll_162 : decode cX12_reachAll 162 = .ok (.iinc 1 1, 3) := by decide +kernel
theorem dX12_reachAll_165 : decode cX12_reachAll 165 = .ok (.goto (-64), 3) := by decide +kernel
theorem dX12_reachAll_168 : decode cX12_reachAll 168 = .ok (.iconst 1, 1) := by decide +kernel
theorem dX12_reachAll_169 : decode cX12_reachAll 169 = .ok (.istore_n 1, 1) := by decide +kernel
theorem dX12_reachAll_170 : decode cX12_reachAll 170 = .ok (.iload_n 1, 1) := by decide +kernel
theorem dX12_reachAll_171 : decode cX12_reachAll 171 = .ok (.ifCond .eq 95, 3) := by decide +kernel
theorem dX12_reachAll_174 : decode cX12_reachAll 174 = .ok (.iconst 0, 1) := by decide +kernel
theorem dX12_reachAll_175 : decode cX12_reachAll 175 = .ok (.istore_n 1, 1) := by decide +kernel
theorem dX12_reachAll_176 : decode cX12_reachAll 176 = .ok (.iconst 0, 1) := by decide +kernel
theorem dX12_reachAll_177 : decode cX12_reachAll 177 = .ok (.istore_n 2, 1) := by decide +kernel
theorem dX12_reachAll_178 : decode cX12_reachAll 178 = .ok (.iload_n 2, 1) := by decide +kernel
theorem dX12_reachAll_179 : decode cX12_reachAll 179 = .ok (.aload_n 0, 1) := by decide +kernel
theorem dX12_reachAll_180 : decode cX12_reachAll 180 = .ok (.getfield 3, 3) := by decide +kernel
theorem dX12_reachAll_183 : decode cX12_reachAll 183 = .ok (.getfield 126, 3) := by decide +kernel
theorem dX12_reachAll_186 : decode cX12_reachAll 186 = .ok (.if_icmp .ge 77, 3) := by decide +kernel
theorem dX12_reachAll_189 : decode cX12_reachAll 189 = .ok (.iconst 0, 1) := by decide +kernel
theorem dX12_reachAll_190 : decode cX12_reachAll 190 = .ok (.istore_n 3, 1) := by decide +kernel
theorem dX12_reachAll_191 : decode cX12_reachAll 191 = .ok (.iload_n 3, 1) := by decide +kernel
theorem dX12_reachAll_192 : decode cX12_reachAll 192 = .ok (.aload_n 0, 1) := by decide +kernel
theorem dX12_reachAll_193 : decode cX12_reachAll 193 = .ok (.getfield 3, 3) := by decide +kernel
theorem dX12_reachAll_196 : decode cX12_reachAll 196 = .ok (.getfield 132, 3) := by decide +kernel
theorem dX12_reachAll_199 : decode cX12_reachAll 199 = .ok (.iload_n 2, 1) := by decide +kernel
theorem dX12_reachAll_200 : decode cX12_reachAll 200 = .ok (.iaload, 1) := by decide +kernel
theorem dX12_reachAll_201 : decode cX12_reachAll 201 = .ok (.if_icmp .ge 56, 3) := by decide +kernel
theorem dX12_reachAll_204 : decode cX12_reachAll 204 = .ok (.aload_n 0, 1) := by decide +kernel
theorem dX12_reachAll_205 : decode cX12_reachAll 205 = .ok (.getfield 44, 3) := by decide +kernel
theorem dX12_reachAll_208 : decode cX12_reachAll 208 = .ok (.iload_n 2, 1) := by decide +kernel
theorem dX12_reachAll_209 : decode cX12_reachAll 209 = .ok (.baload, 1) := by decide +kernel
theorem dX12_reachAll_210 : decode cX12_reachAll 210 = .ok (.ifCond .eq 47, 3) := by decide +kernel
theorem dX12_reachAll_213 : decode cX12_reachAll 213 = .ok (.aload_n 0, 1) := by decide +kernel
theorem dX12_reachAll_214 : decode cX12_reachAll 214 = .ok (.iload_n 2, 1) := by decide +kernel
theorem dX12_reachAll_215 : decode cX12_reachAll 215 = .ok (.iload_n 3, 1) := by decide +kernel
theorem dX12_reachAll_216 : decode cX12_reachAll 216 = .ok (.invokevirtual 135, 3) := by decide +kernel
theorem dX12_reachAll_219 : decode cX12_reachAll 219 = .ok (.iconst (-1), 1) := by decide +kernel
theorem dX12_reachAll_220 : decode cX12_reachAll 220 = .ok (.if_icmp .eq 31, 3) := by decide +kernel
theorem dX12_reachAll_223 : decode cX12_reachAll 223 = .ok (.aload_n 0, 1) := by decide +kernel
theorem dX12_reachAll_224 : decode cX12_reachAll 224 = .ok (.getfield 22, 3) := by decide +kernel
theorem dX12_reachAll_227 : decode cX12_reachAll 227 = .ok (.aload_n 0, 1) := by decide +kernel
theorem dX12_reachAll_228 : decode cX12_reachAll 228 = .ok (.iload_n 2, 1) := by decide +kernel
theorem dX12_reachAll_229 : decode cX12_reachAll 229 = .ok (.iload_n 3, 1) := by decide +kernel
theorem dX12_reachAll_230 : decode cX12_reachAll 230 = .ok (.invokevirtual 135, 3) := by decide +kernel
theorem dX12_reachAll_233 : decode cX12_reachAll 233 = .ok (.iaload, 1) := by decide +kernel
theorem dX12_reachAll_234 : decode cX12_reachAll 234 = .ok (.iconst (-1), 1) := by decide +kernel
theorem dX12_reachAll_235 : decode cX12_reachAll 235 = .ok (.if_icmp .eq 16, 3) := by decide +kernel
theorem dX12_reachAll_238 : decode cX12_reachAll 238 = .ok (.iload_n 1, 1) := by decide +kernel
theorem dX12_reachAll_239 : decode cX12_reachAll 239 = .ok (.aload_n 0, 1) := by decide +kernel
theorem dX12_reachAll_240 : decode cX12_reachAll 240 = .ok (.aload_n 0, 1) := by decide +kernel
theorem dX12_reachAll_241 : decode cX12_reachAll 241 = .ok (.iload_n 2, 1) := by decide +kernel
theorem dX12_reachAll_242 : decode cX12_reachAll 242 = .ok (.iload_n 3, 1) := by decide +kernel
theorem dX12_reachAll_243 : decode cX12_reachAll 243 = .ok (.invokevirtual 135, 3) := by decide +kernel
theorem dX12_reachAll_246 : decode cX12_reachAll 246 = .ok (.invokevirtual 172, 3) := by decide +kernel
theorem dX12_reachAll_249 : decode cX12_reachAll 249 = .ok (.ior, 1) := by decide +kernel
theorem dX12_reachAll_250 : decode cX12_reachAll 250 = .ok (.istore_n 1, 1) := by decide +kernel
theorem dX12_reachAll_251 : decode cX12_reachAll 251 = .ok (.iinc 3 1, 3) := by decide +kernel
theorem dX12_reachAll_254 : decode cX12_reachAll 254 = .ok (.goto (-63), 3) := by decide +kernel
theorem dX12_reachAll_257 : decode cX12_reachAll 257 = .ok (.iinc 2 1, 3) := by decide +kernel
theorem dX12_reachAll_260 : decode cX12_reachAll 260 = .ok (.goto (-82), 3) := by decide +kernel
theorem dX12_reachAll_263 : decode cX12_reachAll 263 = .ok (.goto (-93), 3) := by decide +kernel
theorem dX12_reachAll_266 : decode cX12_reachAll 266 = .ok (.return_, 1) := by decide +kernel
def g_X12_reachAll : Nat → EA := (t_n 134 (t_n 67 (t_n 32 (t_n 15 (t_n 8 (t_n 4 (t_n 1 (t_l 0 (a_aload 1 0)) (t_l 1 (a_getf 12 7))) (t_n 5 (t_l 4 (a_aload 1 0)) (t_l 5 (a_getf 12 0)))) (t_n 10 (t_n 9 (t_l 8 (a_ild 0)) (t_l 9 (a_push 1 (.int (-1))))) (t_n 13 (t_l 10 (a_ic 27 (fun x y => !decide (x = y)))) (t_n 14 (t_l 13 (a_aload 1 0)) (t_l 14 (a_push 1 (.int 2))))))) (t_n 21 (t_n 19 (t_n 16 (t_l 15 (a_aload 1 0)) (t_l 16 (a_getf 12 0))) (t_n 20 (t_l 19 (a_push 1 (.int (-1)))) (t_l 20 (a_push 1 (.int (-1)))))) (t_n 27 (t_n 24 (t_l 21 (a_inv true 211 5 (some 12))) (t_l 24 (a_goto 36))) (t_n 28 (t_l 27 (a_aload 1 0)) (t_n 29 (t_l 28 (a_aload 1 0)) (t_l 29 (a_getf 12 0))))))) (t_n 49 (t_n 38 (t_n 36 (t_n 35 (t_l 32 (a_inv true 213 2 (some 12))) (t_l 35 a_pop)) (t_n 37 (t_l 36 (a_push 1 (.int 0))) (t_l 37 (a_istore 4 1 1)))) (t_n 40 (t_n 39 (t_l 38 (a_iload 1 1)) (t_l 39 (a_aload 1 0))) (t_n 43 (t_l 40 (a_getf 12 24)) (t_n 46 (t_l 43 (a_getf 13 2)) (t_l 46 (a_ic 99 (fun x y => decide (y ≤ x)))))))) (t_n 56 (t_n 53 (t_n 50 (t_l 49 (a_aload 1 0)) (t_l 50 (a_getf 12 14))) (t_n 54 (t_l 53 (a_iload 1 1)) (t_n 55 (t_l 54 a_dup2) (t_l 55 (a_ild 1))))) (t_n 60 (t_n 57 (t_l 56 (a_aload 1 0)) (t_l 57 (a_getf 12 6))) (t_n 61 (t_l 60 (a_aload 1 0)) (t_n 64 (t_l 61 (a_getf 12 24)) (t_l 64 (a_getf 13 4)))))))) (t_n 100 (t_n 82 (t_n 71 (t_n 69 (t_n 68 (t_l 67 (a_iload 1 1)) (t_l 68 (a_ild 0))) (t_n 70 (t_l 69 (a_ild 0)) (t_l 70 (a_push 1 (.int (-1)))))) (t_n 75 (t_n 74 (t_l 71 (a_ic 90 (fun x y => decide (x = y)))) (t_l 74 (a_aload 1 0))) (t_n 78 (t_l 75 (a_getf 12 24)) (t_n 81 (t_l 78 (a_getf 13 7)) (t_l 81 (a_iload 1 1)))))) (t_n 91 (t_n 86 (t_n 83 (t_l 82 (a_ild 1)) (t_l 83 (a_if 90 (fun x => decide (x = 0))))) (t_n 87 (t_l 86 (a_push 1 (.int 1))) (t_n 90 (t_l 87 (a_goto 91)) (t_l 90 (a_push 1 (.int 0)))))) (t_n 93 (t_n 92 (t_l 91 (a_ii 1 (fun x y => x ||| y))) (t_l 92 (a_ist 1))) (t_n 96 (t_l 93 (a_iinc 4 1 1)) (t_n 99 (t_l 96 (a_goto 38)) (t_l 99 (a_push 1 (.int 0)))))))) (t_n 118 (t_n 107 (t_n 102 (t_n 101 (t_l 100 (a_istore 4 1 1)) (t_l 101 (a_iload 1 1))) (t_n 104 (t_l 102 (a_push 2 (.int 20))) (t_l 104 (a_ic 168 (fun x y => decide (y ≤ x)))))) (t_n 111 (t_n 108 (t_l 107 (a_aload 1 0)) (t_l 108 (a_getf 12 3))) (t_n 114 (t_l 111 (a_if 162 (fun x => decide (x = 0)))) (t_n 115 (t_l 114 (a_aload 1 0)) (t_l 115 (a_getf 12 7)))))) (t_n 125 (t_n 120 (t_n 119 (t_l 118 (a_iload 1 1)) (t_l 119 (a_ild 0))) (t_n 121 (t_l 120 (a_push 1 (.int (-1)))) (t_n 124 (t_l 121 (a_ic 162 (fun x y => decide (x = y)))) (t_l 124 (a_aload 1 0))))) (t_n 129 (t_n 128 (t_l 125 (a_getf 12 7)) (t_l 128 (a_iload 1 1))) (t_n 130 (t_l 129 (a_ild 0)) (t_n 131 (t_l 130 (a_push 1 (.int 1))) (t_l 131 (a_ic 156 (fun x y => decide (x = y))))))))))) (t_n 199 (t_n 168 (t_n 150 (t_n 142 (t_n 138 (t_n 135 (t_l 134 (a_aload 1 0)) (t_l 135 (a_getf 12 24))) (t_n 141 (t_l 138 (a_getf 13 12)) (t_l 141 (a_aload 1 0)))) (t_n 146 (t_n 145 (t_l 142 (a_getf 12 8)) (t_l 145 (a_iload 1 1))) (t_n 147 (t_l 146 (a_ild 0)) (t_n 149 (t_l 147 (a_push 2 (.int 20))) (t_l 149 (a_ii 1 (fun x y => x * y))))))) (t_n 157 (t_n 152 (t_n 151 (t_l 150 (a_iload 1 1)) (t_l 151 (a_ii 1 (fun x y => x + y)))) (t_n 153 (t_l 152 (a_ild 1)) (t_n 156 (t_l 153 (a_if 162 (fun x => !decide (x = 0)))) (t_l 156 (a_aload 1 0))))) (t_n 161 (t_n 158 (t_l 157 (a_iload 1 1)) (t_l 158 (a_inv true 213 2 (some 12)))) (t_n 162 (t_l 161 a_pop) (t_n 165 (t_l 162 (a_iinc 4 1 1)) (t_l 165 (a_goto 101))))))) (t_n 179 (t_n 174 (t_n 170 (t_n 169 (t_l 168 (a_push 1 (.int 1))) (t_l 169 (a_istore 4 1 1))) (t_n 171 (t_l 170 (a_iload 1 1)) (t_l 171 (a_if 266 (fun x => decide (x = 0)))))) (t_n 176 (t_n 175 (t_l 174 (a_push 1 (.int 0))) (t_l 175 (a_istore 4 1 1))) (t_n 177 (t_l 176 (a_push 1 (.int 0))) (t_n 178 (t_l 177 (a_istore 4 1 2)) (t_l 178 (a_iload 1 2)))))) (t_n 190 (t_n 183 (t_n 180 (t_l 179 (a_aload 1 0)) (t_l 180 (a_getf 12 24))) (t_n 186 (t_l 183 (a_getf 13 2)) (t_n 189 (t_l 186 (a_ic 263 (fun x y => decide (y ≤ x)))) (t_l 189 (a_push 1 (.int 0)))))) (t_n 192 (t_n 191 (t_l 190 (a_istore 4 1 3)) (t_l 191 (a_iload 1 3))) (t_n 193 (t_l 192 (a_aload 1 0)) (t_n 196 (t_l 193 (a_getf 12 24)) (t_l 196 (a_getf 13 6)))))))) (t_n 230 (t_n 214 (t_n 205 (t_n 201 (t_n 200 (t_l 199 (a_iload 1 2)) (t_l 200 (a_ild 0))) (t_n 204 (t_l 201 (a_ic 257 (fun x y => decide (y ≤ x)))) (t_l 204 (a_aload 1 0)))) (t_n 209 (t_n 208 (t_l 205 (a_getf 12 14)) (t_l 208 (a_iload 1 2))) (t_n 210 (t_l 209 (a_ild 1)) (t_n 213 (t_l 210 (a_if 257 (fun x => decide (x = 0)))) (t_l 213 (a_aload 1 0)))))) (t_n 223 (t_n 216 (t_n 215 (t_l 214 (a_iload 1 2)) (t_l 215 (a_iload 1 3))) (t_n 219 (t_l 216 (a_inv true 208 3 (some 12))) (t_n 220 (t_l 219 (a_push 1 (.int (-1)))) (t_l 220 (a_ic 251 (fun x y => decide (x = y))))))) (t_n 227 (t_n 224 (t_l 223 (a_aload 1 0)) (t_l 224 (a_getf 12 7))) (t_n 228 (t_l 227 (a_aload 1 0)) (t_n 229 (t_l 228 (a_iload 1 2)) (t_l 229 (a_iload 1 3))))))) (t_n 243 (t_n 238 (t_n 234 (t_n 233 (t_l 230 (a_inv true 208 3 (some 12))) (t_l 233 (a_ild 0))) (t_n 235 (t_l 234 (a_push 1 (.int (-1)))) (t_l 235 (a_ic 251 (fun x y => decide (x = y)))))) (t_n 240 (t_n 239 (t_l 238 (a_iload 1 1)) (t_l 239 (a_aload 1 0))) (t_n 241 (t_l 240 (a_aload 1 0)) (t_n 242 (t_l 241 (a_iload 1 2)) (t_l 242 (a_iload 1 3)))))) (t_n 254 (t_n 249 (t_n 246 (t_l 243 (a_inv true 208 3 (some 12))) (t_l 246 (a_inv true 213 2 (some 12)))) (t_n 250 (t_l 249 (a_ii 1 (fun x y => x ||| y))) (t_n 251 (t_l 250 (a_istore 4 1 1)) (t_l 251 (a_iinc 4 3 1))))) (t_n 260 (t_n 257 (t_l 254 (a_goto 191)) (t_l 257 (a_iinc 4 2 1))) (t_n 263 (t_l 260 (a_goto 178)) (t_n 266 (t_l 263 (a_goto 170)) (t_l 266 a_vret)))))))))
set_option maxRecDepth 100000 in
theorem k_X12_reachAll (d : Nat) : ∀ pc, ev_Ok cX12_reachAll 4 [] RX12 lw_g lw_n lw_q vwCl false (ev_CO mt lw_g lw_n lw_q vwCl d) pc (g_X12_reachAll pc) := (ok_t_n (ok_t_n (ok_t_n (ok_t_n (ok_t_n (ok_t_n (ok_t_n (ok_t_l (ok_aload_n dX12_reachAll_0 rfl)) (ok_t_l (ok_getfield dX12_reachAll_1 (ci := 12) (kf := 7) rfl inGX12 (by decide) w_1863))) (ok_t_n (ok_t_l (ok_aload_n dX12_reachAll_4 rfl)) (ok_t_l (ok_getfield dX12_reachAll_5 (ci := 12) (kf := 0) rfl inGX12 (by decide) w_1852)))) (ok_t_n (ok_t_n (ok_t_l (ok_iaload dX12_reachAll_8)) (ok_t_l (ok_iconst dX12_reachAll_9 rfl))) (ok_t_n (ok_t_l (ok_icmp_ne dX12_reachAll_10 rfl)) (ok_t_n (ok_t_l (ok_aload_n dX12_reachAll_13 rfl)) (ok_t_l (ok_iconst dX12_reachAll_14 rfl)))))) (ok_t_n (ok_t_n (ok_t_n (ok_t_l (ok_aload_n dX12_reachAll_15 rfl)) (ok_t_l (ok_getfield dX12_reachAll_16 (ci := 12) (kf := 0) rfl inGX12 (by decide) w_1852))) (ok_t_n (ok_t_l (ok_iconst dX12_reachAll_19 rfl)) (ok_t_l (ok_iconst dX12_reachAll_20 rfl)))) (ok_t_n (ok_t_n (ok_t_l (ok_inv (run_V (y := 211) (n := 4) (ci := 12) dX12_reachAll_21 cz_211 gdG cc_211 ci_211 w_1800 cm_211 cs_211 cd_211 cl_211 rfl rfl))) (ok_t_l (ok_goto dX12_reachAll_24 rfl))) (ok_t_n (ok_t_l (ok_aload_n dX12_reachAll_27 rfl)) (ok_t_n (ok_t_l (ok_aload_n dX12_reachAll_28 rfl)) (ok_t_l (ok_getfield dX12_reachAll_29 (ci := 12) (kf := 0) rfl inGX12 (by decide) w_1852))))))) (ok_t_n (ok_t_n (ok_t_n (ok_t_n (ok_t_l (ok_inv (run_V (y := 213) (n := 1) (ci := 12) dX12_reachAll_32 cz_213 gdG cc_213 ci_213 w_1811 cm_213 cs_213 cd_213 cl_213 rfl rfl))) (ok_t_l (ok_pop dX12_reachAll_35))) (ok_t_n (ok_t_l (ok_iconst dX12_reachAll_36 rfl)) (ok_t_l (ok_istore_n dX12_reachAll_37 rfl)))) (ok_t_n (ok_t_n (ok_t_l (ok_iload_n dX12_reachAll_38 rfl)) (ok_t_l (ok_aload_n dX12_reachAll_39 rfl))) (ok_t_n (ok_t_l (ok_getfield dX12_reachAll_40 (ci := 12) (kf := 24) rfl inGX12 (by decide) w_1891)) (ok_t_n (ok_t_l (ok_getfieldN dX12_reachAll_43 (ci := 13) (kf := 2) rfl inGX13 (by decide) (nst_31))) (ok_t_l (ok_icmp_ge dX12_reachAll_46 rfl)))))) (ok_t_n (ok_t_n (ok_t_n (ok_t_l (ok_aload_n dX12_reachAll_49 rfl)) (ok_t_l (ok_getfield dX12_reachAll_50 (ci := 12) (kf := 14) rfl inGX12 (by decide) w_1872))) (ok_t_n (ok_t_l (ok_iload_n dX12_reachAll_53 rfl)) (ok_t_n (ok_t_l (ok_dup2 dX12_reachAll_54)) (ok_t_l (ok_zaload dX12_reachAll_55))))) (ok_t_n (ok_t_n (ok_t_l (ok_aload_n dX12_reachAll_56 rfl)) (ok_t_l (ok_getfield dX12_reachAll_57 (ci := 12) (kf := 6) rfl inGX12 (by decide) w_1861))) (ok_t_n (ok_t_l (ok_aload_n dX12_reachAll_60 rfl)) (ok_t_n (ok_t_l (ok_getfield dX12_reachAll_61 (ci := 12) (kf := 24) rfl inGX12 (by decide) w_1891)) (ok_t_l (ok_getfieldN dX12_reachAll_64 (ci := 13) (kf := 4) rfl inGX13 (by decide) (nst_33))))))))) (ok_t_n (ok_t_n (ok_t_n (ok_t_n (ok_t_n (ok_t_l (ok_iload_n dX12_reachAll_67 rfl)) (ok_t_l (ok_iaload dX12_reachAll_68))) (ok_t_n (ok_t_l (ok_iaload dX12_reachAll_69)) (ok_t_l (ok_iconst dX12_reachAll_70 rfl)))) (ok_t_n (ok_t_n (ok_t_l (ok_icmp_eq dX12_reachAll_71 rfl)) (ok_t_l (ok_aload_n dX12_reachAll_74 rfl))) (ok_t_n (ok_t_l (ok_getfield dX12_reachAll_75 (ci := 12) (kf := 24) rfl inGX12 (by decide) w_1891)) (ok_t_n (ok_t_l (ok_getfieldN dX12_reachAll_78 (ci := 13) (kf := 7) rfl inGX13 (by decide) (nst_36))) (ok_t_l (ok_iload_n dX12_reachAll_81 rfl)))))) (ok_t_n (ok_t_n (ok_t_n (ok_t_l (ok_zaload dX12_reachAll_82)) (ok_t_l (ok_if_eq dX12_reachAll_83 rfl))) (ok_t_n (ok_t_l (ok_iconst dX12_reachAll_86 rfl)) (ok_t_n (ok_t_l (ok_goto dX12_reachAll_87 rfl)) (ok_t_l (ok_iconst dX12_reachAll_90 rfl))))) (ok_t_n (ok_t_n (ok_t_l (ok_ior dX12_reachAll_91)) (ok_t_l (ok_zastore dX12_reachAll_92))) (ok_t_n (ok_t_l (ok_iinc dX12_reachAll_93 rfl)) (ok_t_n (ok_t_l (ok_goto dX12_reachAll_96 rfl)) (ok_t_l (ok_iconst dX12_reachAll_99 rfl))))))) (ok_t_n (ok_t_n (ok_t_n (ok_t_n (ok_t_l (ok_istore_n dX12_reachAll_100 rfl)) (ok_t_l (ok_iload_n dX12_reachAll_101 rfl))) (ok_t_n (ok_t_l (ok_bipush dX12_reachAll_102 rfl)) (ok_t_l (ok_icmp_ge dX12_reachAll_104 rfl)))) (ok_t_n (ok_t_n (ok_t_l (ok_aload_n dX12_reachAll_107 rfl)) (ok_t_l (ok_getfield dX12_reachAll_108 (ci := 12) (kf := 3) rfl inGX12 (by decide) w_1856))) (ok_t_n (ok_t_l (ok_if_eq dX12_reachAll_111 rfl)) (ok_t_n (ok_t_l (ok_aload_n dX12_reachAll_114 rfl)) (ok_t_l (ok_getfield dX12_reachAll_115 (ci := 12) (kf := 7) rfl inGX12 (by decide) w_1863)))))) (ok_t_n (ok_t_n (ok_t_n (ok_t_l (ok_iload_n dX12_reachAll_118 rfl)) (ok_t_l (ok_iaload dX12_reachAll_119))) (ok_t_n (ok_t_l (ok_iconst dX12_reachAll_120 rfl)) (ok_t_n (ok_t_l (ok_icmp_eq dX12_reachAll_121 rfl)) (ok_t_l (ok_aload_n dX12_reachAll_124 rfl))))) (ok_t_n (ok_t_n (ok_t_l (ok_getfield dX12_reachAll_125 (ci := 12) (kf := 7) rfl inGX12 (by decide) w_1863)) (ok_t_l (ok_iload_n dX12_reachAll_128 rfl))) (ok_t_n (ok_t_l (ok_iaload dX12_reachAll_129)) (ok_t_n (ok_t_l (ok_iconst dX12_reachAll_130 rfl)) (ok_t_l (ok_icmp_eq dX12_reachAll_131 rfl))))))))) (ok_t_n (ok_t_n (ok_t_n (ok_t_n (ok_t_n (ok_t_n (ok_t_l (ok_aload_n dX12_reachAll_134 rfl)) (ok_t_l (ok_getfield dX12_reachAll_135 (ci := 12) (kf := 24) rfl inGX12 (by decide) w_1891))) (ok_t_n (ok_t_l (ok_getfieldN dX12_reachAll_138 (ci := 13) (kf := 12) rfl inGX13 (by decide) (nst_41))) (ok_t_l (ok_aload_n dX12_reachAll_141 rfl)))) (ok_t_n (ok_t_n (ok_t_l (ok_getfield dX12_reachAll_142 (ci := 12) (kf := 8) rfl inGX12 (by decide) w_1864)) (ok_t_l (ok_iload_n dX12_reachAll_145 rfl))) (ok_t_n (ok_t_l (ok_iaload dX12_reachAll_146)) (ok_t_n (ok_t_l (ok_bipush dX12_reachAll_147 rfl)) (ok_t_l (ok_imul dX12_reachAll_149)))))) (ok_t_n (ok_t_n (ok_t_n (ok_t_l (ok_iload_n dX12_reachAll_150 rfl)) (ok_t_l (ok_iadd dX12_reachAll_151))) (ok_t_n (ok_t_l (ok_zaload dX12_reachAll_152)) (ok_t_n (ok_t_l (ok_if_ne dX12_reachAll_153 rfl)) (ok_t_l (ok_aload_n dX12_reachAll_156 rfl))))) (ok_t_n (ok_t_n (ok_t_l (ok_iload_n dX12_reachAll_157 rfl)) (ok_t_l (ok_inv (run_V (y := 213) (n := 1) (ci := 12) dX12_reachAll_158 cz_213 gdG cc_213 ci_213 w_1811 cm_213 cs_213 cd_213 cl_213 rfl rfl)))) (ok_t_n (ok_t_l (ok_pop dX12_reachAll_161)) (ok_t_n (ok_t_l (ok_iinc dX12_reachAll_162 rfl)) (ok_t_l (ok_goto dX12_reachAll_165 rfl))))))) (ok_t_n (ok_t_n (ok_t_n (ok_t_n (ok_t_l (ok_iconst dX12_reachAll_168 rfl)) (ok_t_l (ok_istore_n dX12_reachAll_169 rfl))) (ok_t_n (ok_t_l (ok_iload_n dX12_reachAll_170 rfl)) (ok_t_l (ok_if_eq dX12_reachAll_171 rfl)))) (ok_t_n (ok_t_n (ok_t_l (ok_iconst dX12_reachAll_174 rfl)) (ok_t_l (ok_istore_n dX12_reachAll_175 rfl))) (ok_t_n (ok_t_l (ok_iconst dX12_reachAll_176 rfl)) (ok_t_n (ok_t_l (ok_istore_n dX12_reachAll_177 rfl)) (ok_t_l (ok_iload_n dX12_reachAll_178 rfl)))))) (ok_t_n (ok_t_n (ok_t_n (ok_t_l (ok_aload_n dX12_reachAll_179 rfl)) (ok_t_l (ok_getfield dX12_reachAll_180 (ci := 12) (kf := 24) rfl inGX12 (by decide) w_1891))) (ok_t_n (ok_t_l (ok_getfieldN dX12_reachAll_183 (ci := 13) (kf := 2) rfl inGX13 (by decide) (nst_31))) (ok_t_n (ok_t_l (ok_icmp_ge dX12_reachAll_186 rfl)) (ok_t_l (ok_iconst dX12_reachAll_189 rfl))))) (ok_t_n (ok_t_n (ok_t_l (ok_istore_n dX12_reachAll_190 rfl)) (ok_t_l (ok_iload_n dX12_reachAll_191 rfl))) (ok_t_n (ok_t_l (ok_aload_n dX12_reachAll_192 rfl)) (ok_t_n (ok_t_l (ok_getfield dX12_reachAll_193 (ci := 12) (kf := 24) rfl inGX12 (by decide) w_1891)) (ok_t_l (ok_getfieldN dX12_reachAll_196 (ci := 13) (kf := 6) rfl inGX13 (by decide) (nst_35))))))))) (ok_t_n (ok_t_n (ok_t_n (ok_t_n (ok_t_n (ok_t_l (ok_iload_n dX12_reachAll_199 rfl)) (ok_t_l (ok_iaload dX12_reachAll_200))) (ok_t_n (ok_t_l (ok_icmp_ge dX12_reachAll_201 rfl)) (ok_t_l (ok_aload_n dX12_reachAll_204 rfl)))) (ok_t_n (ok_t_n (ok_t_l (ok_getfield dX12_reachAll_205 (ci := 12) (kf := 14) rfl inGX12 (by decide) w_1872)) (ok_t_l (ok_iload_n dX12_reachAll_208 rfl))) (ok_t_n (ok_t_l (ok_zaload dX12_reachAll_209)) (ok_t_n (ok_t_l (ok_if_eq dX12_reachAll_210 rfl)) (ok_t_l (ok_aload_n dX12_reachAll_213 rfl)))))) (ok_t_n (ok_t_n (ok_t_n (ok_t_l (ok_iload_n dX12_reachAll_214 rfl)) (ok_t_l (ok_iload_n dX12_reachAll_215 rfl))) (ok_t_n (ok_t_l (ok_inv (run_V (y := 208) (n := 2) (ci := 12) dX12_reachAll_216 cz_208 gdG cc_208 ci_208 w_1787 cm_208 cs_208 cd_208 cl_208 rfl rfl))) (ok_t_n (ok_t_l (ok_iconst dX12_reachAll_219 rfl)) (ok_t_l (ok_icmp_eq dX12_reachAll_220 rfl))))) (ok_t_n (ok_t_n (ok_t_l (ok_aload_n dX12_reachAll_223 rfl)) (ok_t_l (ok_getfield dX12_reachAll_224 (ci := 12) (kf := 7) rfl inGX12 (by decide) w_1863))) (ok_t_n (ok_t_l (ok_aload_n dX12_reachAll_227 rfl)) (ok_t_n (ok_t_l (ok_iload_n dX12_reachAll_228 rfl)) (ok_t_l (ok_iload_n dX12_reachAll_229 rfl))))))) (ok_t_n (ok_t_n (ok_t_n (ok_t_n (ok_t_l (ok_inv (run_V (y := 208) (n := 2) (ci := 12) dX12_reachAll_230 cz_208 gdG cc_208 ci_208 w_1787 cm_208 cs_208 cd_208 cl_208 rfl rfl))) (ok_t_l (ok_iaload dX12_reachAll_233))) (ok_t_n (ok_t_l (ok_iconst dX12_reachAll_234 rfl)) (ok_t_l (ok_icmp_eq dX12_reachAll_235 rfl)))) (ok_t_n (ok_t_n (ok_t_l (ok_iload_n dX12_reachAll_238 rfl)) (ok_t_l (ok_aload_n dX12_reachAll_239 rfl))) (ok_t_n (ok_t_l (ok_aload_n dX12_reachAll_240 rfl)) (ok_t_n (ok_t_l (ok_iload_n dX12_reachAll_241 rfl)) (ok_t_l (ok_iload_n dX12_reachAll_242 rfl)))))) (ok_t_n (ok_t_n (ok_t_n (ok_t_l (ok_inv (run_V (y := 208) (n := 2) (ci := 12) dX12_reachAll_243 cz_208 gdG cc_208 ci_208 w_1787 cm_208 cs_208 cd_208 cl_208 rfl rfl))) (ok_t_l (ok_inv (run_V (y := 213) (n := 1) (ci := 12) dX12_reachAll_246 cz_213 gdG cc_213 ci_213 w_1811 cm_213 cs_213 cd_213 cl_213 rfl rfl)))) (ok_t_n (ok_t_l (ok_ior dX12_reachAll_249)) (ok_t_n (ok_t_l (ok_istore_n dX12_reachAll_250 rfl)) (ok_t_l (ok_iinc dX12_reachAll_251 rfl))))) (ok_t_n (ok_t_n (ok_t_l (ok_goto dX12_reachAll_254 rfl)) (ok_t_l (ok_iinc dX12_reachAll_257 rfl))) (ok_t_n (ok_t_l (ok_goto dX12_reachAll_260 rfl)) (ok_t_n (ok_t_l (ok_goto dX12_reachAll_263 rfl)) (ok_t_l (ok_vreturn dX12_reachAll_266))))))))))
theorem dX12_wordsOf_0 : decode cX12_wordsOf 0 = .ok (.aload_n 0, 1) := by decide +kernel
theorem dX12_wordsOf_1 : decode cX12_wordsOf 1 = .ok (.getfield 3, 3) := by decide +kernel
theorem dX12_wordsOf_4 : decode cX12_wordsOf 4 = .ok (.getfield 139, 3) := by decide +kernel
theorem dX12_wordsOf_7 : decode cX12_wordsOf 7 = .ok (.iload_n 1, 1) := by decide +kernel
theorem dX12_wordsOf_8 : decode cX12_wordsOf 8 = .ok (.bipush 8, 2) := by decide +kernel
theorem dX12_wordsOf_10 : decode cX12_wordsOf 10 = .ok (.imul, 1) := by decide +kernel
theorem dX12_wordsOf_11 : decode cX12_wordsOf 11 = .ok (.iload_n 2, 1) := by decide +kernel
theorem dX12_wordsOf_12 : decode cX12_wordsOf 12 = .ok (.iadd, 1) := by decide +kernel
theorem dX12_wordsOf_13 : decode cX12_wordsOf 13 = .ok (.iconst 4, 1) := by decide +kernel
theorem dX12_wordsOf_14 : decode cX12_wordsOf 14 = .ok (.imul, 1) := by decide +kernel
theorem dX12_wordsOf_15 : decode cX12_wordsOf 15 = .ok (.iaload, 1) := by decide +kernel
theorem dX12_wordsOf_16 : decode cX12_wordsOf 16 = .ok (.istore_n 3, 1) := by decide +kernel
theorem dX12_wordsOf_17 : decode cX12_wordsOf 17 = .ok (.iload_n 3, 1) := by decide +kernel
theorem dX12_wordsOf_18 : decode cX12_wordsOf 18 = .ok (.ifCond .ne 24, 3) := by decide +kernel
theorem dX12_wordsOf_21 : decode cX12_wordsOf 21 = .ok (.aload_n 0, 1) := by decide +kernel
theorem dX12_wordsOf_22 : decode cX12_wordsOf 22 = .ok (.getfield 3, 3) := by decide +kernel
theorem dX12_wordsOf_25 : decode cX12_wordsOf 25 = .ok (.getfield 139, 3) := by decide +kernel
theorem dX12_wordsOf_28 : decode cX12_wordsOf 28 = .ok (.iload_n 1, 1) := by decide +kernel
theorem dX12_wordsOf_29 : decode cX12_wordsOf 29 = .ok (.bipush 8, 2) := by decide +kernel
theorem dX12_wordsOf_31 : decode cX12_wordsOf 31 = .ok (.imul, 1) := by decide +kernel
theorem dX12_wordsOf_32 : decode cX12_wordsOf 32 = .ok (.iload_n 2, 1) := by decide +kernel
theorem dX12_wordsOf_33 : decode cX12_wordsOf 33 = .ok (.iadd, 1) := by decide +kernel
theorem dX12_wordsOf_34 : decode cX12_wordsOf 34 = .ok (.iconst 4, 1) := by decide +kernel
theorem dX12_wordsOf_35 : decode cX12_wordsOf 35 = .ok (.imul, 1) := by decide +kernel
theorem dX12_wordsOf_36 : decode cX12_wordsOf 36 = .ok (.iconst 1, 1) := by decide +kernel
theorem dX12_wordsOf_37 : decode cX12_wordsOf 37 = .ok (.iadd, 1) := by decide +kernel
theorem dX12_wordsOf_38 : decode cX12_wordsOf 38 = .ok (.iaload, 1) := by decide +kernel
theorem dX12_wordsOf_39 : decode cX12_wordsOf 39 = .ok (.goto 31, 3) := by decide +kernel
theorem dX12_wordsOf_42 : decode cX12_wordsOf 42 = .ok (.iload_n 3, 1) := by decide +kernel
theorem dX12_wordsOf_43 : decode cX12_wordsOf 43 = .ok (.iconst 1, 1) := by decide +kernel
theorem dX12_wordsOf_44 : decode cX12_wordsOf 44 = .ok (.if_icmp .ne 7, 3) := by decide +kernel
theorem dX12_wordsOf_47 : decode cX12_wordsOf 47 = .ok (.iconst 1, 1) := by decide +kernel
theorem dX12_wordsOf_48 : decode cX12_wordsOf 48 = .ok (.goto 22, 3) := by decide +kernel
theorem dX12_wordsOf_51 : decode cX12_wordsOf 51 = .ok (.aload_n 0, 1) := by decide +kernel
theorem dX12_wordsOf_52 : decode cX12_wordsOf 52 = .ok (.getfield 53, 3) := by decide +kernel
theorem dX12_wordsOf_55 : decode cX12_wordsOf 55 = .ok (.iload_n 1, 1) := by decide +kernel
theorem dX12_wordsOf_56 : decode cX12_wordsOf 56 = .ok (.bipush 8, 2) := by decide +kernel
theorem dX12_wordsOf_58 : decode cX12_wordsOf 58 = .ok (.imul, 1) := by decide +kernel
theorem dX12_wordsOf_59 : decode cX12_wordsOf 59 = .ok (.iload_n 2, 1) := by decide +kernel
theorem dX12_wordsOf_60 : decode cX12_wordsOf 60 = .ok (.iadd, 1) := by decide +kernel
theorem dX12_wordsOf_61 : decode cX12_wordsOf 61 = .ok (.baload, 1) := by decide +kernel
theorem dX12_wordsOf_62 : decode cX12_wordsOf 62 = .ok (.ifCond .eq 7, 3) := by decide +kernel
theorem dX12_wordsOf_65 : decode cX12_wordsOf 65 = .ok (.iconst 5, 1) := by decide +kernel
theorem dX12_wordsOf_66 : decode cX12_wordsOf 66 = .ok (.goto 4, 3) := by decide +kernel
theorem dX12_wordsOf_69 : decode cX12_wordsOf 69 = .ok (.iconst 2, 1) := by decide +kernel
theorem dX12_wordsOf_70 : decode cX12_wordsOf 70 = .ok (.ireturn, 1) := by decide +kernel
def g_X12_wordsOf : Nat → EA := (t_n 35 (t_n 16 (t_n 10 (t_n 4 (t_n 1 (t_l 0 (a_aload 1 0)) (t_l 1 (a_getf 12 24))) (t_n 7 (t_l 4 (a_getf 13 8)) (t_n 8 (t_l 7 (a_iload 1 1)) (t_l 8 (a_push 2 (.int 8)))))) (t_n 13 (t_n 11 (t_l 10 (a_ii 1 (fun x y => x * y))) (t_n 12 (t_l 11 (a_iload 1 2)) (t_l 12 (a_ii 1 (fun x y => x + y))))) (t_n 14 (t_l 13 (a_push 1 (.int 4))) (t_n 15 (t_l 14 (a_ii 1 (fun x y => x * y))) (t_l 15 (a_ild 0)))))) (t_n 28 (t_n 21 (t_n 17 (t_l 16 (a_istore 4 1 3)) (t_n 18 (t_l 17 (a_iload 1 3)) (t_l 18 (a_if 42 (fun x => !decide (x = 0)))))) (t_n 22 (t_l 21 (a_aload 1 0)) (t_n 25 (t_l 22 (a_getf 12 24)) (t_l 25 (a_getf 13 8))))) (t_n 32 (t_n 29 (t_l 28 (a_iload 1 1)) (t_n 31 (t_l 29 (a_push 2 (.int 8))) (t_l 31 (a_ii 1 (fun x y => x * y))))) (t_n 33 (t_l 32 (a_iload 1 2)) (t_n 34 (t_l 33 (a_ii 1 (fun x y => x + y))) (t_l 34 (a_push 1 (.int 4)))))))) (t_n 52 (t_n 42 (t_n 37 (t_n 36 (t_l 35 (a_ii 1 (fun x y => x * y))) (t_l 36 (a_push 1 (.int 1)))) (t_n 38 (t_l 37 (a_ii 1 (fun x y => x + y))) (t_n 39 (t_l 38 (a_ild 0)) (t_l 39 (a_goto 70))))) (t_n 47 (t_n 43 (t_l 42 (a_iload 1 3)) (t_n 44 (t_l 43 (a_push 1 (.int 1))) (t_l 44 (a_ic 51 (fun x y => !decide (x = y)))))) (t_n 48 (t_l 47 (a_push 1 (.int 1))) (t_n 51 (t_l 48 (a_goto 70)) (t_l 51 (a_aload 1 0)))))) (t_n 61 (t_n 58 (t_n 55 (t_l 52 (a_getf 12 17)) (t_n 56 (t_l 55 (a_iload 1 1)) (t_l 56 (a_push 2 (.int 8))))) (t_n 59 (t_l 58 (a_ii 1 (fun x y => x * y))) (t_n 60 (t_l 59 (a_iload 1 2)) (t_l 60 (a_ii 1 (fun x y => x + y)))))) (t_n 66 (t_n 62 (t_l 61 (a_ild 1)) (t_n 65 (t_l 62 (a_if 69 (fun x => decide (x = 0)))) (t_l 65 (a_push 1 (.int 5))))) (t_n 69 (t_l 66 (a_goto 70)) (t_n 70 (t_l 69 (a_push 1 (.int 2))) (t_l 70 a_iret)))))))
set_option maxRecDepth 100000 in
theorem k_X12_wordsOf (d : Nat) : ∀ pc, ev_Ok cX12_wordsOf 4 [] RX12 lw_g lw_n lw_q vwCl false (ev_CO mt lw_g lw_n lw_q vwCl d) pc (g_X12_wordsOf pc) := (ok_t_n (ok_t_n (ok_t_n (ok_t_n (ok_t_n (ok_t_l (ok_aload_n dX12_wordsOf_0 rfl)) (ok_t_l (ok_getfield dX12_wordsOf_1 (ci := 12) (kf := 24) rfl inGX12 (by decide) w_1891))) (ok_t_n (ok_t_l (ok_getfieldN dX12_wordsOf_4 (ci := 13) (kf := 8) rfl inGX13 (by decide) (nst_37))) (ok_t_n (ok_t_l (ok_iload_n dX12_wordsOf_7 rfl)) (ok_t_l (ok_bipush dX12_wordsOf_8 rfl))))) (ok_t_n (ok_t_n (ok_t_l (ok_imul dX12_wordsOf_10)) (ok_t_n (ok_t_l (ok_iload_n dX12_wordsOf_11 rfl)) (ok_t_l (ok_iadd dX12_wordsOf_12)))) (ok_t_n (ok_t_l (ok_iconst dX12_wordsOf_13 rfl)) (ok_t_n (ok_t_l (ok_imul dX12_wordsOf_14)) (ok_t_l (ok_iaload dX12_wordsOf_15)))))) (ok_t_n (ok_t_n (ok_t_n (ok_t_l (ok_istore_n dX12_wordsOf_16 rfl)) (ok_t_n (ok_t_l (ok_iload_n dX12_wordsOf_17 rfl)) (ok_t_l (ok_if_ne dX12_wordsOf_18 rfl)))) (ok_t_n (ok_t_l (ok_aload_n dX12_wordsOf_21 rfl)) (ok_t_n (ok_t_l (ok_getfield dX12_wordsOf_22 (ci := 12) (kf := 24) rfl inGX12 (by decide) w_1891)) (ok_t_l (ok_getfieldN dX12_wordsOf_25 (ci := 13) (kf := 8) rfl inGX13 (by decide) (nst_37)))))) (ok_t_n (ok_t_n (ok_t_l (ok_iload_n dX12_wordsOf_28 rfl)) (ok_t_n (ok_t_l (ok_bipush dX12_wordsOf_29 rfl)) (ok_t_l (ok_imul dX12_wordsOf_31)))) (ok_t_n (ok_t_l (ok_iload_n dX12_wordsOf_32 rfl)) (ok_t_n (ok_t_l (ok_iadd dX12_wordsOf_33)) (ok_t_l (ok_iconst dX12_wordsOf_34 rfl))))))) (ok_t_n (ok_t_n (ok_t_n (ok_t_n (ok_t_l (ok_imul dX12_wordsOf_35)) (ok_t_l (ok_iconst dX12_wordsOf_36 rfl))) (ok_t_n (ok_t_l (ok_iadd dX12_wordsOf_37)) (ok_t_n (ok_t_l (ok_iaload dX12_wordsOf_38)) (ok_t_l (ok_goto dX12_wordsOf_39 rfl))))) (ok_t_n (ok_t_n (ok_t_l (ok_iload_n dX12_wordsOf_42 rfl)) (ok_t_n (ok_t_l (ok_iconst dX12_wordsOf_43 rfl)) (ok_t_l (ok_icmp_ne dX12_wordsOf_44 rfl)))) (ok_t_n (ok_t_l (ok_iconst dX12_wordsOf_47 rfl)) (ok_t_n (ok_t_l (ok_goto dX12_wordsOf_48 rfl)) (ok_t_l (ok_aload_n dX12_wordsOf_51 rfl)))))) (ok_t_n (ok_t_n (ok_t_n (ok_t_l (ok_getfield dX12_wordsOf_52 (ci := 12) (kf := 17) rfl inGX12 (by decide) w_1878)) (ok_t_n (ok_t_l (ok_iload_n dX12_wordsOf_55 rfl)) (ok_t_l (ok_bipush dX12_wordsOf_56 rfl)))) (ok_t_n (ok_t_l (ok_imul dX12_wordsOf_58)) (ok_t_n (ok_t_l (ok_iload_n dX12_wordsOf_59 rfl)) (ok_t_l (ok_iadd dX12_wordsOf_60))))) (ok_t_n (ok_t_n (ok_t_l (ok_zaload dX12_wordsOf_61)) (ok_t_n (ok_t_l (ok_if_eq dX12_wordsOf_62 rfl)) (ok_t_l (ok_iconst dX12_wordsOf_65 rfl)))) (ok_t_n (ok_t_l (ok_goto dX12_wordsOf_66 rfl)) (ok_t_n (ok_t_l (ok_iconst dX12_wordsOf_69 rfl)) (ok_t_l (ok_ireturn dX12_wordsOf_70))))))))
theorem dX12_wordsUpTo_0 : decode cX12_wordsUpTo 0 = .ok (.iconst 0, 1) := by decide +kernel
theorem dX12_wordsUpTo_1 : decode cX12_wordsUpTo 1 = .ok (.istore_n 3, 1) := by decide +kernel
theorem dX12_wordsUpTo_2 : decode cX12_wordsUpTo 2 = .ok (.iconst 0, 1) := by decide +kernel
theorem dX12_wordsUpTo_3 : decode cX12_wordsUpTo 3 = .ok (.istore 4, 2) := by decide +kernel
theorem dX12_wordsUpTo_5 : decode cX12_wordsUpTo 5 = .ok (.iload 4, 2) := by decide +kernel
theorem dX12_wordsUpTo_7 : decode cX12_wordsUpTo 7 = .ok (.iload_n 2, 1) := by decide +kernel
theorem dX12_wordsUpTo_8 : decode cX12_wordsUpTo 8 = .ok (.if_icmp .ge 19, 3) := by decide +kernel
theorem dX12_wordsUpTo_11 : decode cX12_wordsUpTo 11 = .ok (.iload_n 3, 1) := by decide +kernel
theorem dX12_wordsUpTo_12 : decode cX12_wordsUpTo 12 = .ok (.aload_n 0, 1) := by decide +kernel
theorem dX12_wordsUpTo_13 : decode cX12_wordsUpTo 13 = .ok (.iload_n 1, 1) := by decide +kernel
theorem dX12_wordsUpTo_14 : decode cX12_wordsUpTo 14 = .ok (.iload 4, 2) := by decide +kernel
theorem dX12_wordsUpTo_16 : decode cX12_wordsUpTo 16 = .ok (.invokevirtual 181, 3) := by decide +kernel
theorem dX12_wordsUpTo_19 : decode cX12_wordsUpTo 19 = .ok (.iadd, 1) := by decide +kernel
theorem dX12_wordsUpTo_20 : decode cX12_wordsUpTo 20 = .ok (.istore_n 3, 1) := by decide +kernel
theorem dX12_wordsUpTo_21 : decode cX12_wordsUpTo 21 = .ok (.iinc 4 1, 3) := by decide +kernel
theorem dX12_wordsUpTo_24 : decode cX12_wordsUpTo 24 = .ok (.goto (-19), 3) := by decide +kernel
theorem dX12_wordsUpTo_27 : decode cX12_wordsUpTo 27 = .ok (.iload_n 3, 1) := by decide +kernel
theorem dX12_wordsUpTo_28 : decode cX12_wordsUpTo 28 = .ok (.ireturn, 1) := by decide +kernel
def g_X12_wordsUpTo : Nat → EA := (t_n 13 (t_n 5 (t_n 2 (t_n 1 (t_l 0 (a_push 1 (.int 0))) (t_l 1 (a_istore 5 1 3))) (t_n 3 (t_l 2 (a_push 1 (.int 0))) (t_l 3 (a_istore 5 2 4)))) (t_n 8 (t_n 7 (t_l 5 (a_iload 2 4)) (t_l 7 (a_iload 1 2))) (t_n 11 (t_l 8 (a_ic 27 (fun x y => decide (y ≤ x)))) (t_n 12 (t_l 11 (a_iload 1 3)) (t_l 12 (a_aload 1 0)))))) (t_n 20 (t_n 16 (t_n 14 (t_l 13 (a_iload 1 1)) (t_l 14 (a_iload 2 4))) (t_n 19 (t_l 16 (a_inv true 215 3 (some 12))) (t_l 19 (a_ii 1 (fun x y => x + y))))) (t_n 24 (t_n 21 (t_l 20 (a_istore 5 1 3)) (t_l 21 (a_iinc 5 4 1))) (t_n 27 (t_l 24 (a_goto 5)) (t_n 28 (t_l 27 (a_iload 1 3)) (t_l 28 a_iret))))))
set_option maxRecDepth 100000 in
theorem k_X12_wordsUpTo (d : Nat) : ∀ pc, ev_Ok cX12_wordsUpTo 5 [] RX12 lw_g lw_n lw_q vwCl false (ev_CO mt lw_g lw_n lw_q vwCl d) pc (g_X12_wordsUpTo pc) := (ok_t_n (ok_t_n (ok_t_n (ok_t_n (ok_t_l (ok_iconst dX12_wordsUpTo_0 rfl)) (ok_t_l (ok_istore_n dX12_wordsUpTo_1 rfl))) (ok_t_n (ok_t_l (ok_iconst dX12_wordsUpTo_2 rfl)) (ok_t_l (ok_istore dX12_wordsUpTo_3)))) (ok_t_n (ok_t_n (ok_t_l (ok_iload dX12_wordsUpTo_5)) (ok_t_l (ok_iload_n dX12_wordsUpTo_7 rfl))) (ok_t_n (ok_t_l (ok_icmp_ge dX12_wordsUpTo_8 rfl)) (ok_t_n (ok_t_l (ok_iload_n dX12_wordsUpTo_11 rfl)) (ok_t_l (ok_aload_n dX12_wordsUpTo_12 rfl)))))) (ok_t_n (ok_t_n (ok_t_n (ok_t_l (ok_iload_n dX12_wordsUpTo_13 rfl)) (ok_t_l (ok_iload dX12_wordsUpTo_14))) (ok_t_n (ok_t_l (ok_inv (run_V (y := 215) (n := 2) (ci := 12) dX12_wordsUpTo_16 cz_215 gdG cc_215 ci_215 w_1834 cm_215 cs_215 cd_215 cl_215 rfl rfl))) (ok_t_l (ok_iadd dX12_wordsUpTo_19)))) (ok_t_n (ok_t_n (ok_t_l (ok_istore_n dX12_wordsUpTo_20 rfl)) (ok_t_l (ok_iinc dX12_wordsUpTo_21 rfl))) (ok_t_n (ok_t_l (ok_goto dX12_wordsUpTo_24 rfl)) (ok_t_n (ok_t_l (ok_iload_n dX12_wordsUpTo_27 rfl)) (ok_t_l (ok_ireturn dX12_wordsUpTo_28)))))))
theorem dX12_next_0 : decode cX12_next 0 = .ok (.iload_n 0, 1) := by decide +kernel
theorem dX12_next_1 : decode cX12_next 1 = .ok (.iload_n 1, 1) := by decide +kernel
theorem dX12_next_2 : decode cX12_next 2 = .ok (.iadd, 1) := by decide +kernel
theorem dX12_next_3 : decode cX12_next 3 = .ok (.iconst 1, 1) := by decide +kernel
theorem dX12_next_4 : decode cX12_next 4 = .ok (.isub, 1) := by decide +kernel
theorem dX12_next_5 : decode cX12_next 5 = .ok (.iload_n 1, 1) := by decide +kernel
theorem dX12_next_6 : decode cX12_next 6 = .ok (.idiv, 1) := by decide +kernel
theorem dX12_next_7 : decode cX12_next 7 = .ok (.iload_n 1, 1) := by decide +kernel
theorem dX12_next_8 : decode cX12_next 8 = .ok (.imul, 1) := by decide +kernel
theorem dX12_next_9 : decode cX12_next 9 = .ok (.ireturn, 1) := by decide +kernel
def g_X12_next : Nat → EA := (t_n 5 (t_n 2 (t_n 1 (t_l 0 (a_iload 1 0)) (t_l 1 (a_iload 1 1))) (t_n 3 (t_l 2 (a_ii 1 (fun x y => x + y))) (t_n 4 (t_l 3 (a_push 1 (.int 1))) (t_l 4 (a_ii 1 (fun x y => x - y)))))) (t_n 7 (t_n 6 (t_l 5 (a_iload 1 1)) (t_l 6 (a_iiN (fun x y => x / y)))) (t_n 8 (t_l 7 (a_iload 1 1)) (t_n 9 (t_l 8 (a_ii 1 (fun x y => x * y))) (t_l 9 a_iret)))))
set_option maxRecDepth 100000 in
theorem k_X12_next (d : Nat) : ∀ pc, ev_Ok cX12_next 2 [] RX12 lw_g lw_n lw_q vwCl false (ev_CO mt lw_g lw_n lw_q vwCl d) pc (g_X12_next pc) := (ok_t_n (ok_t_n (ok_t_n (ok_t_l (ok_iload_n dX12_next_0 rfl)) (ok_t_l (ok_iload_n dX12_next_1 rfl))) (ok_t_n (ok_t_l (ok_iadd dX12_next_2)) (ok_t_n (ok_t_l (ok_iconst dX12_next_3 rfl)) (ok_t_l (ok_isub dX12_next_4))))) (ok_t_n (ok_t_n (ok_t_l (ok_iload_n dX12_next_5 rfl)) (ok_t_l (ok_idiv dX12_next_6))) (ok_t_n (ok_t_l (ok_iload_n dX12_next_7 rfl)) (ok_t_n (ok_t_l (ok_imul dX12_next_8)) (ok_t_l (ok_ireturn dX12_next_9))))))
theorem dX12_place_0 : decode cX12_place 0 = .ok (.iconst 1, 1) := by decide +kernel
theorem dX12_place_1 : decode cX12_place 1 = .ok (.istore_n 1, 1) := by decide +kernel
theorem dX12_place_2 : decode cX12_place 2 = .ok (.aload_n 0, 1) := by decide +kernel
theorem dX12_place_3 : decode cX12_place 3 = .ok (.iconst 0, 1) := by decide +kernel
theorem dX12_place_4 : decode cX12_place 4 = .ok (.putfield 184, 3) := by decide +kernel
theorem dX12_place_7 : decode cX12_place 7 = .ok (.iconst 0, 1) := by decide +kernel
theorem dX12_place_8 : decode cX12_place 8 = .ok (.istore_n 2, 1) := by decide +kernel
theorem dX12_place_9 : decode cX12_place 9 = .ok (.iload_n 2, 1) := by decide +kernel
theorem dX12_place_10 : decode cX12_place 10 = .ok (.aload_n 0, 1) := by decide +kernel
theorem dX12_place_11 : decode cX12_place 11 = .ok (.getfield 117, 3) := by decide +kernel
theorem dX12_place_14 : decode cX12_place 14 = .ok (.if_icmp .ge 126, 3) := by decide +kernel
theorem dX12_place_17 : decode cX12_place 17 = .ok (.iconst 0, 1) := by decide +kernel
theorem dX12_place_18 : decode cX12_place 18 = .ok (.istore_n 3, 1) := by decide +kernel
theorem dX12_place_19 : decode cX12_place 19 = .ok (.iload_n 3, 1) := by decide +kernel
theorem dX12_place_20 : decode cX12_place 20 = .ok (.aload_n 0, 1) := by decide +kernel
theorem dX12_place_21 : decode cX12_place 21 = .ok (.getfield 3, 3) := by decide +kernel
theorem dX12_place_24 : decode cX12_place 24 = .ok (.getfield 126, 3) := by decide +kernel
theorem dX12_place_27 : decode cX12_place 27 = .ok (.if_icmp .ge 107, 3) := by decide +kernel
theorem dX12_place_30 : decode cX12_place 30 = .ok (.aload_n 0, 1) := by decide +kernel
theorem dX12_place_31 : decode cX12_place 31 = .ok (.getfield 3, 3) := by decide +kernel
theorem dX12_place_34 : decode cX12_place 34 = .ok (.getfield 129, 3) := by decide +kernel
theorem dX12_place_37 : decode cX12_place 37 = .ok (.iload_n 3, 1) := by decide +kernel
theorem dX12_place_38 : decode cX12_place 38 = .ok (.iaload, 1) := by decide +kernel
theorem dX12_place_39 : decode cX12_place 39 = .ok (.aload_n 0, 1) := by decide +kernel
theorem dX12_place_40 : decode cX12_place 40 = .ok (.getfield 15, 3) := by decide +kernel
theorem dX12_place_43 : decode cX12_place 43 = .ok (.iload_n 2, 1) := by decide +kernel
theorem dX12_place_44 : decode cX12_place 44 = .ok (.iaload, 1) := by decide +kernel
theorem dX12_place_45 : decode cX12_place 45 = .ok (.if_icmp .ne 83, 3) := by decide +kernel
theorem dX12_place_48 : decode cX12_place 48 = .ok (.aload_n 0, 1) := by decide +kernel
theorem dX12_place_49 : decode cX12_place 49 = .ok (.getfield 44, 3) := by decide +kernel
theorem dX12_place_52 : decode cX12_place 52 = .ok (.iload_n 3, 1) := by decide +kernel
theorem dX12_place_53 : decode cX12_place 53 = .ok (.baload, 1) := by decide +kernel
theorem dX12_place_54 : decode cX12_place 54 = .ok (.ifCond .ne 6, 3) := by decide +kernel
theorem dX12_place_57 : decode cX12_place 57 = .ok (.goto 71, 3) := by decide +kernel
theorem dX12_place_60 : decode cX12_place 60 = .ok (.aload_n 0, 1) := by decide +kernel
theorem dX12_place_61 : decode cX12_place 61 = .ok (.getfield 47, 3) := by decide +kernel
theorem dX12_place_64 : decode cX12_place 64 = .ok (.iload_n 3, 1) := by decide +kernel
theorem dX12_place_65 : decode cX12_place 65 = .ok (.iload_n 1, 1) := by decide +kernel
theorem dX12_place_66 : decode cX12_place 66 = .ok (.aload_n 0, 1) := by decide +kernel
theorem dX12_place_67 : decode cX12_place 67 = .ok (.getfield 3, 3) := by decide +kernel
theorem dX12_place_70 : decode cX12_place 70 = .ok (.getfield 187, 3) := by decide +kernel
theorem dX12_place_73 : decode cX12_place 73 = .ok (.iload_n 3, 1) := by decide +kernel
theorem dX12_place_74 : decode cX12_place 74 = .ok (.iaload, 1) := by decide +kernel
theorem dX12_place_75 : decode cX12_place 75 = .ok (.invokestatic 190, 3) := by decide +kernel
theorem dX12_place_78 : decode cX12_place 78 = .ok (.iastore, 1) := by decide +kernel
theorem dX12_place_79 : decode cX12_place 79 = .ok (.aload_n 0, 1) := by decide +kernel
theorem dX12_place_80 : decode cX12_place 80 = .ok (.getfield 50, 3) := by decide +kernel
theorem dX12_place_83 : decode cX12_place 83 = .ok (.iload_n 3, 1) := by decide +kernel
theorem dX12_place_84 : decode cX12_place 84 = .ok (.aload_n 0, 1) := by decide +kernel
theorem dX12_place_85 : decode cX12_place 85 = .ok (.iload_n 3, 1) := by decide +kernel
theorem dX12_place_86 : decode cX12_place 86 = .ok (.aload_n 0, 1) := by decide +kernel
theorem dX12_place_87 : decode cX12_place 87 = .ok (.getfield 3, 3) := by decide +kernel
theorem dX12_place_90 : decode cX12_place 90 = .ok (.getfield 132, 3) := by decide +kernel
theorem dX12_place_93 : decode cX12_place 93 = .ok (.iload_n 3, 1) := by decide +kernel
theorem dX12_place_94 : decode cX12_place 94 = .ok (.iaload, 1) := by decide +kernel
theorem dX12_place_95 : decode cX12_place 95 = .ok (.invokevirtual 193, 3) := by decide +kernel
theorem dX12_place_98 : decode cX12_place 98 = .ok (.iastore, 1) := by decide +kernel
theorem dX12_place_99 : decode cX12_place 99 = .ok (.aload_n 0, 1) := by decide +kernel
theorem dX12_place_100 : decode cX12_place 100 = .ok (.getfield 47, 3) := by decide +kernel
theorem dX12_place_103 : decode cX12_place 103 = .ok (.iload_n 3, 1) := by decide +kernel
theorem dX12_place_104 : decode cX12_place 104 = .ok (.iaload, 1) := by decide +kernel
theorem dX12_place_105 : decode cX12_place 105 = .ok (.aload_n 0, 1) := by decide +kernel
theorem dX12_place_106 : decode cX12_place 106 = .ok (.getfield 50, 3) := by decide +kernel
theorem dX12_place_109 : decode cX12_place 109 = .ok (.iload_n 3, 1) := by decide +kernel
theorem dX12_place_110 : decode cX12_place 110 = .ok (.iaload, 1) := by decide +kernel
theorem dX12_place_111 : decode cX12_place 111 = .ok (.iadd, 1) := by decide +kernel
theorem dX12_place_112 : decode cX12_place 112 = .ok (.istore_n 1, 1) := by decide +kernel
theorem dX12_place_113 : decode cX12_place 113 = .ok (.aload_n 0, 1) := by decide +kernel
theorem dX12_place_114 : decode cX12_place 114 = .ok (.dup, 1) := by decide +kernel
theorem dX12_place_115 : decode cX12_place 115 = .ok (.getfield 184, 3) := by decide +kernel
theorem dX12_place_118 : decode cX12_place 118 = .ok (.aload_n 0, 1) := by decide +kernel
theorem dX12_place_119 : decode cX12_place 119 = .ok (.getfield 50, 3) := by decide +kernel
theorem dX12_place_122 : decode cX12_place 122 = .ok (.iload_n 3, 1) := by decide +kernel
theorem dX12_place_123 : decode cX12_place 123 = .ok (.iaload, 1) := by decide +kernel
theorem dX12_place_124 : decode cX12_place 124 = .ok (.iadd, 1) := by decide +kernel
theorem dX12_place_125 : decode cX12_place 125 = .ok (.putfield 184, 3) := by decide +kernel
theorem dX12_place_128 : decode cX12_place 128 = .ok (.iinc 3 1, 3) := by decide +kernel
theorem dX12_place_131 : decode cX12_place 131 = .ok (.goto (-112), 3) := by decide +kernel
theorem dX12_place_134 : decode cX12_place 134 = .ok (.iinc 2 1, 3) := by decide +kernel
theorem dX12_place_137 : decode cX12_place 137 = .ok (.goto (-128), 3) := by decide +kernel
theorem dX12_place_140 : decode cX12_place 140 = .ok (.iconst 0, 1) := by decide +kernel
theorem dX12_place_141 : decode cX12_place 141 = .ok (.istore_n 2, 1) := by decide +kernel
theorem dX12_place_142 : decode cX12_place 142 = .ok (.iload_n 2, 1) := by decide +kernel
theorem dX12_place_143 : decode cX12_place 143 = .ok (.bipush 20, 2) := by decide +kernel
theorem dX12_place_145 : decode cX12_place 145 = .ok (.if_icmp .ge 133, 3) := by decide +kernel
theorem dX12_place_148 : decode cX12_place 148 = .ok (.aload_n 0, 1) := by decide +kernel
theorem dX12_place_149 : decode cX12_place 149 = .ok (.iload_n 2, 1) := by decide +kernel
theorem dX12_place_150 : decode cX12_place 150 = .ok (.invokevirtual 169, 3) := by decide +kernel
theorem dX12_place_153 : decode cX12_place 153 = .ok (.istore_n 3, 1) := by decide +kernel
theorem dX12_place_154 : decode cX12_place 154 = .ok (.iload_n 3, 1) := by decide +kernel
theorem dX12_place_155 : decode cX12_place 155 = .ok (.iconst (-1), 1) := by decide +kernel
theorem dX12_place_156 : decode cX12_place 156 = .ok (.if_icmp .eq 49, 3) := by decide +kernel
theorem dX12_place_159 : decode cX12_place 159 = .ok (.aload_n 0, 1) := by decide +kernel
theorem dX12_place_160 : decode cX12_place 160 = .ok (.getfield 44, 3) := by decide +kernel
theorem dX12_place_163 : decode cX12_place 163 = .ok (.iload_n 3, 1) := by decide +kernel
theorem dX12_place_164 : decode cX12_place 164 = .ok (.baload, 1) := by decide +kernel
theorem dX12_place_165 : decode cX12_place 165 = .ok (.ifCond .eq 40, 3) := by decide +kernel
theorem dX12_place_168 : decode cX12_place 168 = .ok (.aload_n 0, 1) := by decide +kernel
theorem dX12_place_169 : decode cX12_place 169 = .ok (.getfield 34, 3) := by decide +kernel
theorem dX12_place_172 : decode cX12_place 172 = .ok (.iload_n 2, 1) := by decide +kernel
theorem dX12_place_173 : decode cX12_place 173 = .ok (.aload_n 0, 1) := by decide +kernel
theorem dX12_place_174 : decode cX12_place 174 = .ok (.getfield 47, 3) := by decide +kernel
theorem dX12_place_177 : decode cX12_place 177 = .ok (.iload_n 3, 1) := by decide +kernel
theorem dX12_place_178 : decode cX12_place 178 = .ok (.iaload, 1) := by decide +kernel
theorem dX12_place_179 : decode cX12_place 179 = .ok (.aload_n 0, 1) := by decide +kernel
theorem dX12_place_180 : decode cX12_place 180 = .ok (.iload_n 3, 1) := by decide +kernel
theorem dX12_place_181 : decode cX12_place 181 = .ok (.aload_n 0, 1) := by decide +kernel
theorem dX12_place_182 : decode cX12_place 182 = .ok (.getfield 3, 3) := by decide +kernel
theorem dX12_place_185 : decode cX12_place 185 = .ok (.getfield 153, 3) := by decide +kernel
theorem dX12_place_188 : decode cX12_place 188 = .ok (.aload_n 0, 1) := by decide +kernel
theorem dX12_place_189 : decode cX12_place 189 = .ok (.getfield 25, 3) := by decide +kernel
theorem dX12_place_192 : decode cX12_place 192 = .ok (.iload_n 2, 1) := by decide +kernel
theorem dX12_place_193 : decode cX12_place 193 = .ok (.iaload, 1) := by decide +kernel
theorem dX12_place_194 : decode cX12_place 194 = .ok (.bipush 20, 2) := by decide +kernel
theorem dX12_place_196 : decode cX12_place 196 = .ok (.imul, 1) := by decide +kernel
theorem dX12_place_197 : decode cX12_place 197 = .ok (.iload_n 2, 1) := by decide +kernel
theorem dX12_place_198 : decode cX12_place 198 = .ok (.iadd, 1) := by decide +kernel
theorem dX12_place_199 : decode cX12_place 199 = .ok (.iaload, 1) := by decide +kernel
theorem dX12_place_200 : decode cX12_place 200 = .ok (.invokevirtual 193, 3) := by decide +kernel
theorem dX12_place_203 : decode cX12_place 203 = .ok (.iadd, 1) := by decide +kernel
theorem dX12_place_204 : decode cX12_place 204 = .ok (.iastore, 1) := by decide +kernel
theorem dX12_place_205 : decode cX12_place 205 = .ok (.aload_n 0, 1) := by decide +kernel
theorem dX12_place_206 : decode cX12_place 206 = .ok (.getfield 22, 3) := by decide +kernel
theorem dX12_place_209 : decode cX12_place 209 = .ok (.iload_n 2, 1) := by decide +kernel
theorem dX12_place_210 : decode cX12_place 210 = .ok (.iaload, 1) := by decide +kernel
theorem dX12_place_211 : decode cX12_place 211 = .ok (.iconst 1, 1) := by decide +kernel
theorem dX12_place_212 : decode cX12_place 212 = .ok (.if_icmp .ne 60, 3) := by decide +kernel
theorem dX12_place_215 : decode cX12_place 215 = .ok (.aload_n 0, 1) := by decide +kernel
theorem dX12_place_216 : decode cX12_place 216 = .ok (.getfield 40, 3) := by decide +kernel
theorem dX12_place_219 : decode cX12_place 219 = .ok (.iload_n 2, 1) := by decide +kernel
theorem dX12_place_220 : decode cX12_place 220 = .ok (.baload, 1) := by decide +kernel
theorem dX12_place_221 : decode cX12_place 221 = .ok (.ifCond .ne 6, 3) := by decide +kernel
theorem dX12_place_224 : decode cX12_place 224 = .ok (.goto 48, 3) := by decide +kernel
theorem dX12_place_227 : decode cX12_place 227 = .ok (.aload_n 0, 1) := by decide +kernel
theorem dX12_place_228 : decode cX12_place 228 = .ok (.getfield 34, 3) := by decide +kernel
theorem dX12_place_231 : decode cX12_place 231 = .ok (.iload_n 2, 1) := by decide +kernel
theorem dX12_place_232 : decode cX12_place 232 = .ok (.iload_n 1, 1) := by decide +kernel
theorem dX12_place_233 : decode cX12_place 233 = .ok (.aload_n 0, 1) := by decide +kernel
theorem dX12_place_234 : decode cX12_place 234 = .ok (.getfield 31, 3) := by decide +kernel
theorem dX12_place_237 : decode cX12_place 237 = .ok (.iload_n 2, 1) := by decide +kernel
theorem dX12_place_238 : decode cX12_place 238 = .ok (.iaload, 1) := by decide +kernel
theorem dX12_place_239 : decode cX12_place 239 = .ok (.invokestatic 190, 3) := by decide +kernel
theorem dX12_place_242 : decode cX12_place 242 = .ok (.iastore, 1) := by decide +kernel
theorem dX12_place_243 : decode cX12_place 243 = .ok (.aload_n 0, 1) := by decide +kernel
theorem dX12_place_244 : decode cX12_place 244 = .ok (.getfield 34, 3) := by decide +kernel
theorem dX12_place_247 : decode cX12_place 247 = .ok (.iload_n 2, 1) := by decide +kernel
theorem dX12_place_248 : decode cX12_place 248 = .ok (.iaload, 1) := by decide +kernel
theorem dX12_place_249 : decode cX12_place 249 = .ok (.aload_n 0, 1) := by decide +kernel
theorem dX12_place_250 : decode cX12_place 250 = .ok (.getfield 28, 3) := by decide +kernel
theorem dX12_place_253 : decode cX12_place 253 = .ok (.iload_n 2, 1) := by decide +kernel
theorem dX12_place_254 : decode cX12_place 254 = .ok (.iaload, 1) := by decide +kernel
theorem dX12_place_255 : decode cX12_place 255 = .ok (.iadd, 1) := by decide +kernel
theorem dX12_place_256 : decode cX12_place 256 = .ok (.istore_n 1, 1) := by decide +kernel
theorem dX12_place_257 : decode cX12_place 257 = .ok (.aload_n 0, 1) := by decide +kernel
theorem dX12_place_258 : decode cX12_place 258 = .ok (.dup, 1) := by decide +kernel
theorem dX12_place_259 : decode cX12_place 259 = .ok (.getfield 184, 3) := by decide +kernel
theorem dX12_place_262 : decode cX12_place 262 = .ok (.aload_n 0, 1) := by decide +kernel
theorem dX12_place_263 : decode cX12_place 263 = .ok (.getfield 28, 3) := by decide +kernel
theorem dX12_place_266 : decode cX12_place 266 = .ok (.iload_n 2, 1) := by decide +kernel
theorem dX12_place_267 : decode cX12_place 267 = .ok (.iaload, 1) := by decide +kernel
theorem dX12_place_268 : decode cX12_place 268 = .ok (.iadd, 1) := by decide +kernel
theorem dX12_place_269 : decode cX12_place 269 = .ok (.putfield 184, 3) := by decide +kernel
theorem dX12_place_272 : decode cX12_place 272 = .ok (.iinc 2 1, 3) := by decide +kernel
theorem dX12_place_275 : decode cX12_place 275 = .ok (.goto (-133), 3) := by decide +kernel
theorem dX12_place_278 : decode cX12_place 278 = .ok (.aload_n 0, 1) := by decide +kernel
theorem dX12_place_279 : decode cX12_place 279 = .ok (.iload_n 1, 1) := by decide +kernel
theorem dX12_place_280 : decode cX12_place 280 = .ok (.putfield 196, 3) := by decide +kernel
theorem dX12_place_283 : decode cX12_place 283 = .ok (.return_, 1) := by decide +kernel
def g_X12_place : Nat → EA := (t_n 145 (t_n 74 (t_n 37 (t_n 14 (t_n 7 (t_n 2 (t_n 1 (t_l 0 (a_push 1 (.int 1))) (t_l 1 (a_istore 4 1 1))) (t_n 3 (t_l 2 (a_aload 1 0)) (t_n 4 (t_l 3 (a_push 1 (.int 0))) (t_l 4 (a_putf 0 12 20))))) (t_n 9 (t_n 8 (t_l 7 (a_push 1 (.int 0))) (t_l 8 (a_istore 4 1 2))) (t_n 10 (t_l 9 (a_iload 1 2)) (t_n 11 (t_l 10 (a_aload 1 0)) (t_l 11 (a_getf 12 4)))))) (t_n 21 (t_n 18 (t_n 17 (t_l 14 (a_ic 140 (fun x y => decide (y ≤ x)))) (t_l 17 (a_push 1 (.int 0)))) (t_n 19 (t_l 18 (a_istore 4 1 3)) (t_n 20 (t_l 19 (a_iload 1 3)) (t_l 20 (a_aload 1 0))))) (t_n 30 (t_n 24 (t_l 21 (a_getf 12 24)) (t_n 27 (t_l 24 (a_getf 13 2)) (t_l 27 (a_ic 134 (fun x y => decide (y ≤ x)))))) (t_n 31 (t_l 30 (a_aload 1 0)) (t_n 34 (t_l 31 (a_getf 12 24)) (t_l 34 (a_getf 13 4))))))) (t_n 53 (t_n 44 (t_n 39 (t_n 38 (t_l 37 (a_iload 1 3)) (t_l 38 (a_ild 0))) (t_n 40 (t_l 39 (a_aload 1 0)) (t_n 43 (t_l 40 (a_getf 12 5)) (t_l 43 (a_iload 1 2))))) (t_n 48 (t_n 45 (t_l 44 (a_ild 0)) (t_l 45 (a_ic 128 (fun x y => !decide (x = y))))) (t_n 49 (t_l 48 (a_aload 1 0)) (t_n 52 (t_l 49 (a_getf 12 14)) (t_l 52 (a_iload 1 3)))))) (t_n 64 (t_n 57 (t_n 54 (t_l 53 (a_ild 1)) (t_l 54 (a_if 60 (fun x => !decide (x = 0))))) (t_n 60 (t_l 57 (a_goto 128)) (t_n 61 (t_l 60 (a_aload 1 0)) (t_l 61 (a_getf 12 15))))) (t_n 67 (t_n 65 (t_l 64 (a_iload 1 3)) (t_n 66 (t_l 65 (a_iload 1 1)) (t_l 66 (a_aload 1 0)))) (t_n 70 (t_l 67 (a_getf 12 24)) (t_n 73 (t_l 70 (a_getf 13 5)) (t_l 73 (a_iload 1 3)))))))) (t_n 109 (t_n 90 (t_n 83 (t_n 78 (t_n 75 (t_l 74 (a_ild 0)) (t_l 75 (a_inv true 217 2 none))) (t_n 79 (t_l 78 (a_ist 0)) (t_n 80 (t_l 79 (a_aload 1 0)) (t_l 80 (a_getf 12 16))))) (t_n 85 (t_n 84 (t_l 83 (a_iload 1 3)) (t_l 84 (a_aload 1 0))) (t_n 86 (t_l 85 (a_iload 1 3)) (t_n 87 (t_l 86 (a_aload 1 0)) (t_l 87 (a_getf 12 24)))))) (t_n 99 (t_n 94 (t_n 93 (t_l 90 (a_getf 13 6)) (t_l 93 (a_iload 1 3))) (t_n 95 (t_l 94 (a_ild 0)) (t_n 98 (t_l 95 (a_inv true 216 3 (some 12))) (t_l 98 (a_ist 0))))) (t_n 104 (t_n 100 (t_l 99 (a_aload 1 0)) (t_n 103 (t_l 100 (a_getf 12 15)) (t_l 103 (a_iload 1 3)))) (t_n 105 (t_l 104 (a_ild 0)) (t_n 106 (t_l 105 (a_aload 1 0)) (t_l 106 (a_getf 12 16))))))) (t_n 123 (t_n 114 (t_n 111 (t_n 110 (t_l 109 (a_iload 1 3)) (t_l 110 (a_ild 0))) (t_n 112 (t_l 111 (a_ii 1 (fun x y => x + y))) (t_n 113 (t_l 112 (a_istore 4 1 1)) (t_l 113 (a_aload 1 0))))) (t_n 118 (t_n 115 (t_l 114 a_dup) (t_l 115 (a_getf 12 20))) (t_n 119 (t_l 118 (a_aload 1 0)) (t_n 122 (t_l 119 (a_getf 12 16)) (t_l 122 (a_iload 1 3)))))) (t_n 134 (t_n 125 (t_n 124 (t_l 123 (a_ild 0)) (t_l 124 (a_ii 1 (fun x y => x + y)))) (t_n 128 (t_l 125 (a_putf 0 12 20)) (t_n 131 (t_l 128 (a_iinc 4 3 1)) (t_l 131 (a_goto 19))))) (t_n 141 (t_n 137 (t_l 134 (a_iinc 4 2 1)) (t_n 140 (t_l 137 (a_goto 9)) (t_l 140 (a_push 1 (.int 0))))) (t_n 142 (t_l 141 (a_istore 4 1 2)) (t_n 143 (t_l 142 (a_iload 1 2)) (t_l 143 (a_push 2 (.int 20)))))))))) (t_n 212 (t_n 180 (t_n 163 (t_n 154 (t_n 149 (t_n 148 (t_l 145 (a_ic 278 (fun x y => decide (y ≤ x)))) (t_l 148 (a_aload 1 0))) (t_n 150 (t_l 149 (a_iload 1 2)) (t_n 153 (t_l 150 (a_inv true 212 2 (some 12))) (t_l 153 (a_istore 4 1 3))))) (t_n 156 (t_n 155 (t_l 154 (a_iload 1 3)) (t_l 155 (a_push 1 (.int (-1))))) (t_n 159 (t_l 156 (a_ic 205 (fun x y => decide (x = y)))) (t_n 160 (t_l 159 (a_aload 1 0)) (t_l 160 (a_getf 12 14)))))) (t_n 172 (t_n 165 (t_n 164 (t_l 163 (a_iload 1 3)) (t_l 164 (a_ild 1))) (t_n 168 (t_l 165 (a_if 205 (fun x => decide (x = 0)))) (t_n 169 (t_l 168 (a_aload 1 0)) (t_l 169 (a_getf 12 11))))) (t_n 177 (t_n 173 (t_l 172 (a_iload 1 2)) (t_n 174 (t_l 173 (a_aload 1 0)) (t_l 174 (a_getf 12 15)))) (t_n 178 (t_l 177 (a_iload 1 3)) (t_n 179 (t_l 178 (a_ild 0)) (t_l 179 (a_aload 1 0))))))) (t_n 197 (t_n 189 (t_n 182 (t_n 181 (t_l 180 (a_iload 1 3)) (t_l 181 (a_aload 1 0))) (t_n 185 (t_l 182 (a_getf 12 24)) (t_n 188 (t_l 185 (a_getf 13 11)) (t_l 188 (a_aload 1 0))))) (t_n 193 (t_n 192 (t_l 189 (a_getf 12 8)) (t_l 192 (a_iload 1 2))) (t_n 194 (t_l 193 (a_ild 0)) (t_n 196 (t_l 194 (a_push 2 (.int 20))) (t_l 196 (a_ii 1 (fun x y => x * y))))))) (t_n 204 (t_n 199 (t_n 198 (t_l 197 (a_iload 1 2)) (t_l 198 (a_ii 1 (fun x y => x + y)))) (t_n 200 (t_l 199 (a_ild 0)) (t_n 203 (t_l 200 (a_inv true 216 3 (some 12))) (t_l 203 (a_ii 1 (fun x y => x + y)))))) (t_n 209 (t_n 205 (t_l 204 (a_ist 0)) (t_n 206 (t_l 205 (a_aload 1 0)) (t_l 206 (a_getf 12 7)))) (t_n 210 (t_l 209 (a_iload 1 2)) (t_n 211 (t_l 210 (a_ild 0)) (t_l 211 (a_push 1 (.int 1))))))))) (t_n 249 (t_n 232 (t_n 221 (t_n 216 (t_n 215 (t_l 212 (a_ic 272 (fun x y => !decide (x = y)))) (t_l 215 (a_aload 1 0))) (t_n 219 (t_l 216 (a_getf 12 13)) (t_n 220 (t_l 219 (a_iload 1 2)) (t_l 220 (a_ild 1))))) (t_n 227 (t_n 224 (t_l 221 (a_if 227 (fun x => !decide (x = 0)))) (t_l 224 (a_goto 272))) (t_n 228 (t_l 227 (a_aload 1 0)) (t_n 231 (t_l 228 (a_getf 12 11)) (t_l 231 (a_iload 1 2)))))) (t_n 239 (t_n 234 (t_n 233 (t_l 232 (a_iload 1 1)) (t_l 233 (a_aload 1 0))) (t_n 237 (t_l 234 (a_getf 12 10)) (t_n 238 (t_l 237 (a_iload 1 2)) (t_l 238 (a_ild 0))))) (t_n 244 (t_n 242 (t_l 239 (a_inv true 217 2 none)) (t_n 243 (t_l 242 (a_ist 0)) (t_l 243 (a_aload 1 0)))) (t_n 247 (t_l 244 (a_getf 12 11)) (t_n 248 (t_l 247 (a_iload 1 2)) (t_l 248 (a_ild 0))))))) (t_n 263 (t_n 256 (t_n 253 (t_n 250 (t_l 249 (a_aload 1 0)) (t_l 250 (a_getf 12 9))) (t_n 254 (t_l 253 (a_iload 1 2)) (t_n 255 (t_l 254 (a_ild 0)) (t_l 255 (a_ii 1 (fun x y => x + y)))))) (t_n 258 (t_n 257 (t_l 256 (a_istore 4 1 1)) (t_l 257 (a_aload 1 0))) (t_n 259 (t_l 258 a_dup) (t_n 262 (t_l 259 (a_getf 12 20)) (t_l 262 (a_aload 1 0)))))) (t_n 272 (t_n 267 (t_n 266 (t_l 263 (a_getf 12 9)) (t_l 266 (a_iload 1 2))) (t_n 268 (t_l 267 (a_ild 0)) (t_n 269 (t_l 268 (a_ii 1 (fun x y => x + y))) (t_l 269 (a_putf 0 12 20))))) (t_n 279 (t_n 275 (t_l 272 (a_iinc 4 2 1)) (t_n 278 (t_l 275 (a_goto 142)) (t_l 278 (a_aload 1 0)))) (t_n 280 (t_l 279 (a_iload 1 1)) (t_n 283 (t_l 280 (a_putf 0 12 19)) (t_l 283 a_vret)))))))))
set_option maxRecDepth 100000 in
theorem k_X12_place (d : Nat) : ∀ pc, ev_Ok cX12_place 4 [] RX12 lw_g lw_n lw_q vwCl false (ev_CO mt lw_g lw_n lw_q vwCl d) pc (g_X12_place pc) := (ok_t_n (ok_t_n (ok_t_n (ok_t_n (ok_t_n (ok_t_n (ok_t_n (ok_t_l (ok_iconst dX12_place_0 rfl)) (ok_t_l (ok_istore_n dX12_place_1 rfl))) (ok_t_n (ok_t_l (ok_aload_n dX12_place_2 rfl)) (ok_t_n (ok_t_l (ok_iconst dX12_place_3 rfl)) (ok_t_l (ok_putfield dX12_place_4 (ci := 12) (kf := 20) rfl inGX12 (by decide) tyX12_ok nmX12 rfl w_1883 rfl))))) (ok_t_n (ok_t_n (ok_t_l (ok_iconst dX12_place_7 rfl)) (ok_t_l (ok_istore_n dX12_place_8 rfl))) (ok_t_n (ok_t_l (ok_iload_n dX12_place_9 rfl)) (ok_t_n (ok_t_l (ok_aload_n dX12_place_10 rfl)) (ok_t_l (ok_getfield dX12_place_11 (ci := 12) (kf := 4) rfl inGX12 (by decide) w_1858)))))) (ok_t_n (ok_t_n (ok_t_n (ok_t_l (ok_icmp_ge dX12_place_14 rfl)) (ok_t_l (ok_iconst dX12_place_17 rfl))) (ok_t_n (ok_t_l (ok_istore_n dX12_place_18 rfl)) (ok_t_n (ok_t_l (ok_iload_n dX12_place_19 rfl)) (ok_t_l (ok_aload_n dX12_place_20 rfl))))) (ok_t_n (ok_t_n (ok_t_l (ok_getfield dX12_place_21 (ci := 12) (kf := 24) rfl inGX12 (by decide) w_1891)) (ok_t_n (ok_t_l (ok_getfieldN dX12_place_24 (ci := 13) (kf := 2) rfl inGX13 (by decide) (nst_31))) (ok_t_l (ok_icmp_ge dX12_place_27 rfl)))) (ok_t_n (ok_t_l (ok_aload_n dX12_place_30 rfl)) (ok_t_n (ok_t_l (ok_getfield dX12_place_31 (ci := 12) (kf := 24) rfl inGX12 (by decide) w_1891)) (ok_t_l (ok_getfieldN dX12_place_34 (ci := 13) (kf := 4) rfl inGX13 (by decide) (nst_33)))))))) (ok_t_n (ok_t_n (ok_t_n (ok_t_n (ok_t_l (ok_iload_n dX12_place_37 rfl)) (ok_t_l (ok_iaload dX12_place_38))) (ok_t_n (ok_t_l (ok_aload_n dX12_place_39 rfl)) (ok_t_n (ok_t_l (ok_getfield dX12_place_40 (ci := 12) (kf := 5) rfl inGX12 (by decide) w_1860)) (ok_t_l (ok_iload_n dX12_place_43 rfl))))) (ok_t_n (ok_t_n (ok_t_l (ok_iaload dX12_place_44)) (ok_t_l (ok_icmp_ne dX12_place_45 rfl))) (ok_t_n (ok_t_l (ok_aload_n dX12_place_48 rfl)) (ok_t_n (ok_t_l (ok_getfield dX12_place_49 (ci := 12) (kf := 14) rfl inGX12 (by decide) w_1872)) (ok_t_l (ok_iload_n dX12_place_52 rfl)))))) (ok_t_n (ok_t_n (ok_t_n (ok_t_l (ok_zaload dX12_place_53)) (ok_t_l (ok_if_ne dX12_place_54 rfl))) (ok_t_n (ok_t_l (ok_goto dX12_place_57 rfl)) (ok_t_n (ok_t_l (ok_aload_n dX12_place_60 rfl)) (ok_t_l (ok_getfield dX12_place_61 (ci := 12) (kf := 15) rfl inGX12 (by decide) w_1874))))) (ok_t_n (ok_t_n (ok_t_l (ok_iload_n dX12_place_64 rfl)) (ok_t_n (ok_t_l (ok_iload_n dX12_place_65 rfl)) (ok_t_l (ok_aload_n dX12_place_66 rfl)))) (ok_t_n (ok_t_l (ok_getfield dX12_place_67 (ci := 12) (kf := 24) rfl inGX12 (by decide) w_1891)) (ok_t_n (ok_t_l (ok_getfieldN dX12_place_70 (ci := 13) (kf := 5) rfl inGX13 (by decide) (nst_34))) (ok_t_l (ok_iload_n dX12_place_73 rfl)))))))) (ok_t_n (ok_t_n (ok_t_n (ok_t_n (ok_t_n (ok_t_l (ok_iaload dX12_place_74)) (ok_t_l (ok_inv (run_S (y := 217) (n := 2) dX12_place_75 cz_217 gdG cc_217 ci_217 w_1827 cm_217 cd_217 cl_217)))) (ok_t_n (ok_t_l (ok_iastore dX12_place_78)) (ok_t_n (ok_t_l (ok_aload_n dX12_place_79 rfl)) (ok_t_l (ok_getfield dX12_place_80 (ci := 12) (kf := 16) rfl inGX12 (by decide) w_1876))))) (ok_t_n (ok_t_n (ok_t_l (ok_iload_n dX12_place_83 rfl)) (ok_t_l (ok_aload_n dX12_place_84 rfl))) (ok_t_n (ok_t_l (ok_iload_n dX12_place_85 rfl)) (ok_t_n (ok_t_l (ok_aload_n dX12_place_86 rfl)) (ok_t_l (ok_getfield dX12_place_87 (ci := 12) (kf := 24) rfl inGX12 (by decide) w_1891)))))) (ok_t_n (ok_t_n (ok_t_n (ok_t_l (ok_getfieldN dX12_place_90 (ci := 13) (kf := 6) rfl inGX13 (by decide) (nst_35))) (ok_t_l (ok_iload_n dX12_place_93 rfl))) (ok_t_n (ok_t_l (ok_iaload dX12_place_94)) (ok_t_n (ok_t_l (ok_inv (run_V (y := 216) (n := 2) (ci := 12) dX12_place_95 cz_216 gdG cc_216 ci_216 w_1830 cm_216 cs_216 cd_216 cl_216 rfl rfl))) (ok_t_l (ok_iastore dX12_place_98))))) (ok_t_n (ok_t_n (ok_t_l (ok_aload_n dX12_place_99 rfl)) (ok_t_n (ok_t_l (ok_getfield dX12_place_100 (ci := 12) (kf := 15) rfl inGX12 (by decide) w_1874)) (ok_t_l (ok_iload_n dX12_place_103 rfl)))) (ok_t_n (ok_t_l (ok_iaload dX12_place_104)) (ok_t_n (ok_t_l (ok_aload_n dX12_place_105 rfl)) (ok_t_l (ok_getfield dX12_place_106 (ci := 12) (kf := 16) rfl inGX12 (by decide) w_1876))))))) (ok_t_n (ok_t_n (ok_t_n (ok_t_n (ok_t_l (ok_iload_n dX12_place_109 rfl)) (ok_t_l (ok_iaload dX12_place_110))) (ok_t_n (ok_t_l (ok_iadd dX12_place_111)) (ok_t_n (ok_t_l (ok_istore_n dX12_place_112 rfl)) (ok_t_l (ok_aload_n dX12_place_113 rfl))))) (ok_t_n (ok_t_n (ok_t_l (ok_dup dX12_place_114)) (ok_t_l (ok_getfield dX12_place_115 (ci := 12) (kf := 20) rfl inGX12 (by decide) w_1883))) (ok_t_n (ok_t_l (ok_aload_n dX12_place_118 rfl)) (ok_t_n (ok_t_l (ok_getfield dX12_place_119 (ci := 12) (kf := 16) rfl inGX12 (by decide) w_1876)) (ok_t_l (ok_iload_n dX12_place_122 rfl)))))) (ok_t_n (ok_t_n (ok_t_n (ok_t_l (ok_iaload dX12_place_123)) (ok_t_l (ok_iadd dX12_place_124))) (ok_t_n (ok_t_l (ok_putfield dX12_place_125 (ci := 12) (kf := 20) rfl inGX12 (by decide) tyX12_ok nmX12 rfl w_1883 rfl)) (ok_t_n (ok_t_l (ok_iinc dX12_place_128 rfl)) (ok_t_l (ok_goto dX12_place_131 rfl))))) (ok_t_n (ok_t_n (ok_t_l (ok_iinc dX12_place_134 rfl)) (ok_t_n (ok_t_l (ok_goto dX12_place_137 rfl)) (ok_t_l (ok_iconst dX12_place_140 rfl)))) (ok_t_n (ok_t_l (ok_istore_n dX12_place_141 rfl)) (ok_t_n (ok_t_l (ok_iload_n dX12_place_142 rfl)) (ok_t_l (ok_bipush dX12_place_143 rfl))))))))) (ok_t_n (ok_t_n (ok_t_n (ok_t_n (ok_t_n (ok_t_n (ok_t_l (ok_icmp_ge dX12_place_145 rfl)) (ok_t_l (ok_aload_n dX12_place_148 rfl))) (ok_t_n (ok_t_l (ok_iload_n dX12_place_149 rfl)) (ok_t_n (ok_t_l (ok_inv (run_V (y := 212) (n := 1) (ci := 12) dX12_place_150 cz_212 gdG cc_212 ci_212 w_1815 cm_212 cs_212 cd_212 cl_212 rfl rfl))) (ok_t_l (ok_istore_n dX12_place_153 rfl))))) (ok_t_n (ok_t_n (ok_t_l (ok_iload_n dX12_place_154 rfl)) (ok_t_l (ok_iconst dX12_place_155 rfl))) (ok_t_n (ok_t_l (ok_icmp_eq dX12_place_156 rfl)) (ok_t_n (ok_t_l (ok_aload_n dX12_place_159 rfl)) (ok_t_l (ok_getfield dX12_place_160 (ci := 12) (kf := 14) rfl inGX12 (by decide) w_1872)))))) (ok_t_n (ok_t_n (ok_t_n (ok_t_l (ok_iload_n dX12_place_163 rfl)) (ok_t_l (ok_zaload dX12_place_164))) (ok_t_n (ok_t_l (ok_if_eq dX12_place_165 rfl)) (ok_t_n (ok_t_l (ok_aload_n dX12_place_168 rfl)) (ok_t_l (ok_getfield dX12_place_169 (ci := 12) (kf := 11) rfl inGX12 (by decide) w_1868))))) (ok_t_n (ok_t_n (ok_t_l (ok_iload_n dX12_place_172 rfl)) (ok_t_n (ok_t_l (ok_aload_n dX12_place_173 rfl)) (ok_t_l (ok_getfield dX12_place_174 (ci := 12) (kf := 15) rfl inGX12 (by decide) w_1874)))) (ok_t_n (ok_t_l (ok_iload_n dX12_place_177 rfl)) (ok_t_n (ok_t_l (ok_iaload dX12_place_178)) (ok_t_l (ok_aload_n dX12_place_179 rfl))))))) (ok_t_n (ok_t_n (ok_t_n (ok_t_n (ok_t_l (ok_iload_n dX12_place_180 rfl)) (ok_t_l (ok_aload_n dX12_place_181 rfl))) (ok_t_n (ok_t_l (ok_getfield dX12_place_182 (ci := 12) (kf := 24) rfl inGX12 (by decide) w_1891)) (ok_t_n (ok_t_l (ok_getfieldN dX12_place_185 (ci := 13) (kf := 11) rfl inGX13 (by decide) (nst_40))) (ok_t_l (ok_aload_n dX12_place_188 rfl))))) (ok_t_n (ok_t_n (ok_t_l (ok_getfield dX12_place_189 (ci := 12) (kf := 8) rfl inGX12 (by decide) w_1864)) (ok_t_l (ok_iload_n dX12_place_192 rfl))) (ok_t_n (ok_t_l (ok_iaload dX12_place_193)) (ok_t_n (ok_t_l (ok_bipush dX12_place_194 rfl)) (ok_t_l (ok_imul dX12_place_196)))))) (ok_t_n (ok_t_n (ok_t_n (ok_t_l (ok_iload_n dX12_place_197 rfl)) (ok_t_l (ok_iadd dX12_place_198))) (ok_t_n (ok_t_l (ok_iaload dX12_place_199)) (ok_t_n (ok_t_l (ok_inv (run_V (y := 216) (n := 2) (ci := 12) dX12_place_200 cz_216 gdG cc_216 ci_216 w_1830 cm_216 cs_216 cd_216 cl_216 rfl rfl))) (ok_t_l (ok_iadd dX12_place_203))))) (ok_t_n (ok_t_n (ok_t_l (ok_iastore dX12_place_204)) (ok_t_n (ok_t_l (ok_aload_n dX12_place_205 rfl)) (ok_t_l (ok_getfield dX12_place_206 (ci := 12) (kf := 7) rfl inGX12 (by decide) w_1863)))) (ok_t_n (ok_t_l (ok_iload_n dX12_place_209 rfl)) (ok_t_n (ok_t_l (ok_iaload dX12_place_210)) (ok_t_l (ok_iconst dX12_place_211 rfl)))))))) (ok_t_n (ok_t_n (ok_t_n (ok_t_n (ok_t_n (ok_t_l (ok_icmp_ne dX12_place_212 rfl)) (ok_t_l (ok_aload_n dX12_place_215 rfl))) (ok_t_n (ok_t_l (ok_getfield dX12_place_216 (ci := 12) (kf := 13) rfl inGX12 (by decide) w_1871)) (ok_t_n (ok_t_l (ok_iload_n dX12_place_219 rfl)) (ok_t_l (ok_zaload dX12_place_220))))) (ok_t_n (ok_t_n (ok_t_l (ok_if_ne dX12_place_221 rfl)) (ok_t_l (ok_goto dX12_place_224 rfl))) (ok_t_n (ok_t_l (ok_aload_n dX12_place_227 rfl)) (ok_t_n (ok_t_l (ok_getfield dX12_place_228 (ci := 12) (kf := 11) rfl inGX12 (by decide) w_1868)) (ok_t_l (ok_iload_n dX12_place_231 rfl)))))) (ok_t_n (ok_t_n (ok_t_n (ok_t_l (ok_iload_n dX12_place_232 rfl)) (ok_t_l (ok_aload_n dX12_place_233 rfl))) (ok_t_n (ok_t_l (ok_getfield dX12_place_234 (ci := 12) (kf := 10) rfl inGX12 (by decide) w_1867)) (ok_t_n (ok_t_l (ok_iload_n dX12_place_237 rfl)) (ok_t_l (ok_iaload dX12_place_238))))) (ok_t_n (ok_t_n (ok_t_l (ok_inv (run_S (y := 217) (n := 2) dX12_place_239 cz_217 gdG cc_217 ci_217 w_1827 cm_217 cd_217 cl_217))) (ok_t_n (ok_t_l (ok_iastore dX12_place_242)) (ok_t_l (ok_aload_n dX12_place_243 rfl)))) (ok_t_n (ok_t_l (ok_getfield dX12_place_244 (ci := 12) (kf := 11) rfl inGX12 (by decide) w_1868)) (ok_t_n (ok_t_l (ok_iload_n dX12_place_247 rfl)) (ok_t_l (ok_iaload dX12_place_248))))))) (ok_t_n (ok_t_n (ok_t_n (ok_t_n (ok_t_l (ok_aload_n dX12_place_249 rfl)) (ok_t_l (ok_getfield dX12_place_250 (ci := 12) (kf := 9) rfl inGX12 (by decide) w_1866))) (ok_t_n (ok_t_l (ok_iload_n dX12_place_253 rfl)) (ok_t_n (ok_t_l (ok_iaload dX12_place_254)) (ok_t_l (ok_iadd dX12_place_255))))) (ok_t_n (ok_t_n (ok_t_l (ok_istore_n dX12_place_256 rfl)) (ok_t_l (ok_aload_n dX12_place_257 rfl))) (ok_t_n (ok_t_l (ok_dup dX12_place_258)) (ok_t_n (ok_t_l (ok_getfield dX12_place_259 (ci := 12) (kf := 20) rfl inGX12 (by decide) w_1883)) (ok_t_l (ok_aload_n dX12_place_262 rfl)))))) (ok_t_n (ok_t_n (ok_t_n (ok_t_l (ok_getfield dX12_place_263 (ci := 12) (kf := 9) rfl inGX12 (by decide) w_1866)) (ok_t_l (ok_iload_n dX12_place_266 rfl))) (ok_t_n (ok_t_l (ok_iaload dX12_place_267)) (ok_t_n (ok_t_l (ok_iadd dX12_place_268)) (ok_t_l (ok_putfield dX12_place_269 (ci := 12) (kf := 20) rfl inGX12 (by decide) tyX12_ok nmX12 rfl w_1883 rfl))))) (ok_t_n (ok_t_n (ok_t_l (ok_iinc dX12_place_272 rfl)) (ok_t_n (ok_t_l (ok_goto dX12_place_275 rfl)) (ok_t_l (ok_aload_n dX12_place_278 rfl)))) (ok_t_n (ok_t_l (ok_iload_n dX12_place_279 rfl)) (ok_t_n (ok_t_l (ok_putfield dX12_place_280 (ci := 12) (kf := 19) rfl inGX12 (by decide) tyX12_ok nmX12 rfl w_1881 rfl)) (ok_t_l (ok_vreturn dX12_place_283))))))))))
theorem dX12_standsFor_0 : decode cX12_standsFor 0 = .ok (.aload_n 0, 1) := by decide +kernel
theorem dX12_standsFor_1 : decode cX12_standsFor 1 = .ok (.getfield 22, 3) := by decide +kernel
theorem dX12_standsFor_4 : decode cX12_standsFor 4 = .ok (.iload_n 1, 1) := by decide +kernel
theorem dX12_standsFor_5 : decode cX12_standsFor 5 = .ok (.iaload, 1) := by decide +kernel
theorem dX12_standsFor_6 : decode cX12_standsFor 6 = .ok (.iconst (-1), 1) := by decide +kernel
theorem dX12_standsFor_7 : decode cX12_standsFor 7 = .ok (.if_icmp .ne 7, 3) := by decide +kernel
theorem dX12_standsFor_10 : decode cX12_standsFor 10 = .ok (.iconst 0, 1) := by decide +kernel
theorem dX12_standsFor_11 : decode cX12_standsFor 11 = .ok (.goto 9, 3) := by decide +kernel
theorem dX12_standsFor_14 : decode cX12_standsFor 14 = .ok (.aload_n 0, 1) := by decide +kernel
theorem dX12_standsFor_15 : decode cX12_standsFor 15 = .ok (.getfield 34, 3) := by decide +kernel
theorem dX12_standsFor_18 : decode cX12_standsFor 18 = .ok (.iload_n 1, 1) := by decide +kernel
theorem dX12_standsFor_19 : decode cX12_standsFor 19 = .ok (.iaload, 1) := by decide +kernel
theorem dX12_standsFor_20 : decode cX12_standsFor 20 = .ok (.ireturn, 1) := by decide +kernel
def g_X12_standsFor : Nat → EA := (t_n 10 (t_n 5 (t_n 1 (t_l 0 (a_aload 1 0)) (t_n 4 (t_l 1 (a_getf 12 7)) (t_l 4 (a_iload 1 1)))) (t_n 6 (t_l 5 (a_ild 0)) (t_n 7 (t_l 6 (a_push 1 (.int (-1)))) (t_l 7 (a_ic 14 (fun x y => !decide (x = y))))))) (t_n 15 (t_n 11 (t_l 10 (a_push 1 (.int 0))) (t_n 14 (t_l 11 (a_goto 20)) (t_l 14 (a_aload 1 0)))) (t_n 19 (t_n 18 (t_l 15 (a_getf 12 11)) (t_l 18 (a_iload 1 1))) (t_n 20 (t_l 19 (a_ild 0)) (t_l 20 a_iret)))))
set_option maxRecDepth 100000 in
theorem k_X12_standsFor (d : Nat) : ∀ pc, ev_Ok cX12_standsFor 2 [] RX12 lw_g lw_n lw_q vwCl false (ev_CO mt lw_g lw_n lw_q vwCl d) pc (g_X12_standsFor pc) := (ok_t_n (ok_t_n (ok_t_n (ok_t_l (ok_aload_n dX12_standsFor_0 rfl)) (ok_t_n (ok_t_l (ok_getfield dX12_standsFor_1 (ci := 12) (kf := 7) rfl inGX12 (by decide) w_1863)) (ok_t_l (ok_iload_n dX12_standsFor_4 rfl)))) (ok_t_n (ok_t_l (ok_iaload dX12_standsFor_5)) (ok_t_n (ok_t_l (ok_iconst dX12_standsFor_6 rfl)) (ok_t_l (ok_icmp_ne dX12_standsFor_7 rfl))))) (ok_t_n (ok_t_n (ok_t_l (ok_iconst dX12_standsFor_10 rfl)) (ok_t_n (ok_t_l (ok_goto dX12_standsFor_11 rfl)) (ok_t_l (ok_aload_n dX12_standsFor_14 rfl)))) (ok_t_n (ok_t_n (ok_t_l (ok_getfield dX12_standsFor_15 (ci := 12) (kf := 11) rfl inGX12 (by decide) w_1868)) (ok_t_l (ok_iload_n dX12_standsFor_18 rfl))) (ok_t_n (ok_t_l (ok_iaload dX12_standsFor_19)) (ok_t_l (ok_ireturn dX12_standsFor_20))))))
theorem dX12_layOut_0 : decode cX12_layOut 0 = .ok (.iconst 0, 1) := by decide +kernel
theorem dX12_layOut_1 : decode cX12_layOut 1 = .ok (.istore_n 1, 1) := by decide +kernel
theorem dX12_layOut_2 : decode cX12_layOut 2 = .ok (.iload_n 1, 1) := by decide +kernel
theorem dX12_layOut_3 : decode cX12_layOut 3 = .ok (.bipush 24, 2) := by decide +kernel
theorem dX12_layOut_5 : decode cX12_layOut 5 = .ok (.if_icmp .ge 16, 3) := by decide +kernel
theorem dX12_layOut_8 : decode cX12_layOut 8 = .ok (.aload_n 0, 1) := by decide +kernel
theorem dX12_layOut_9 : decode cX12_layOut 9 = .ok (.getfield 47, 3) := by decide +kernel
theorem dX12_layOut_12 : decode cX12_layOut 12 = .ok (.iload_n 1, 1) := by decide +kernel
theorem dX12_layOut_13 : decode cX12_layOut 13 = .ok (.iconst (-1), 1) := by decide +kernel
theorem dX12_layOut_14 : decode cX12_layOut 14 = .ok (.iastore, 1) := by decide +kernel
theorem dX12_layOut_15 : decode cX12_layOut 15 = .ok (.iinc 1 1, 3) := by decide +kernel
theorem dX12_layOut_18 : decode cX12_layOut 18 = .ok (.goto (-16), 3) := by decide +kernel
theorem dX12_layOut_21 : decode cX12_layOut 21 = .ok (.iconst 1, 1) := by decide +kernel
theorem dX12_layOut_22 : decode cX12_layOut 22 = .ok (.istore_n 1, 1) := by decide +kernel
theorem dX12_layOut_23 : decode cX12_layOut 23 = .ok (.iload_n 1, 1) := by decide +kernel
theorem dX12_layOut_24 : decode cX12_layOut 24 = .ok (.ifCond .eq 211, 3) := by decide +kernel
theorem dX12_layOut_27 : decode cX12_layOut 27 = .ok (.aload_n 0, 1) := by decide +kernel
theorem dX12_layOut_28 : decode cX12_layOut 28 = .ok (.invokevirtual 199, 3) := by decide +kernel
theorem dX12_layOut_31 : decode cX12_layOut 31 = .ok (.iconst 0, 1) := by decide +kernel
theorem dX12_layOut_32 : decode cX12_layOut 32 = .ok (.istore_n 1, 1) := by decide +kernel
theorem dX12_layOut_33 : decode cX12_layOut 33 = .ok (.aload_n 0, 1) := by decide +kernel
theorem dX12_layOut_34 : decode cX12_layOut 34 = .ok (.getfield 53, 3) := by decide +kernel
theorem dX12_layOut_37 : decode cX12_layOut 37 = .ok (.arraylength, 1) := by decide +kernel
theorem dX12_layOut_38 : decode cX12_layOut 38 = .ok (.newarray .boolean, 2) := by decide +kernel
theorem dX12_layOut_40 : decode cX12_layOut 40 = .ok (.astore_n 2, 1) := by decide +kernel
theorem dX12_layOut_41 : decode cX12_layOut 41 = .ok (.iconst 0, 1) := by decide +kernel
theorem dX12_layOut_42 : decode cX12_layOut 42 = .ok (.istore_n 3, 1) := by decide +kernel
theorem dX12_layOut_43 : decode cX12_layOut 43 = .ok (.iload_n 3, 1) := by decide +kernel
theorem dX12_layOut_44 : decode cX12_layOut 44 = .ok (.aload_n 0, 1) := by decide +kernel
theorem dX12_layOut_45 : decode cX12_layOut 45 = .ok (.getfield 3, 3) := by decide +kernel
theorem dX12_layOut_48 : decode cX12_layOut 48 = .ok (.getfield 126, 3) := by decide +kernel
theorem dX12_layOut_51 : decode cX12_layOut 51 = .ok (.if_icmp .ge 169, 3) := by decide +kernel
theorem dX12_layOut_54 : decode cX12_layOut 54 = .ok (.iconst 0, 1) := by decide +kernel
theorem dX12_layOut_55 : decode cX12_layOut 55 = .ok (.istore 4, 2) := by decide +kernel
theorem dX12_layOut_57 : decode cX12_layOut 57 = .ok (.iload 4, 2) := by decide +kernel
theorem dX12_layOut_59 : decode cX12_layOut 59 = .ok (.aload_n 0, 1) := by decide +kernel
theorem dX12_layOut_60 : decode cX12_layOut 60 = .ok (.getfield 3, 3) := by decide +kernel
theorem dX12_layOut_63 : decode cX12_layOut 63 = .ok (.getfield 132, 3) := by decide +kernel
theorem dX12_layOut_66 : decode cX12_layOut 66 = .ok (.iload_n 3, 1) := by decide +kernel
theorem dX12_layOut_67 : decode cX12_layOut 67 = .ok (.iaload, 1) := by decide +kernel
theorem dX12_layOut_68 : decode cX12_layOut 68 = .ok (.if_icmp .ge 146, 3) := by decide +kernel
theorem dX12_layOut_71 : decode cX12_layOut 71 = .ok (.aload_n 0, 1) := by decide +kernel
theorem dX12_layOut_72 : decode cX12_layOut 72 = .ok (.getfield 44, 3) := by decide +kernel
theorem dX12_layOut_75 : decode cX12_layOut 75 = .ok (.iload_n 3, 1) := by decide +kernel
theorem dX12_layOut_76 : decode cX12_layOut 76 = .ok (.baload, 1) := by decide +kernel
theorem dX12_layOut_77 : decode cX12_layOut 77 = .ok (.ifCond .eq 137, 3) := by decide +kernel
theorem dX12_layOut_80 : decode cX12_layOut 80 = .ok (.aload_n 0, 1) := by decide +kernel
theorem dX12_layOut_81 : decode cX12_layOut 81 = .ok (.getfield 3, 3) := by decide +kernel
theorem dX12_layOut_84 : decode cX12_layOut 84 = .ok (.getfield 139, 3) := by decide +kernel
theorem dX12_layOut_87 : decode cX12_layOut 87 = .ok (.iload_n 3, 1) := by decide +kernel
theorem dX12_layOut_88 : decode cX12_layOut 88 = .ok (.bipush 8, 2) := by decide +kernel
theorem dX12_layOut_90 : decode cX12_layOut 90 = .ok (.imul, 1) := by decide +kernel
theorem dX12_layOut_91 : decode cX12_layOut 91 = .ok (.iload 4, 2) := by decide +kernel
theorem dX12_layOut_93 : decode cX12_layOut 93 = .ok (.iadd, 1) := by decide +kernel
theorem dX12_layOut_94 : decode cX12_layOut 94 = .ok (.iconst 4, 1) := by decide +kernel
theorem dX12_layOut_95 : decode cX12_layOut 95 = .ok (.imul, 1) := by decide +kernel
theorem dX12_layOut_96 : decode cX12_layOut 96 = .ok (.iaload, 1) := by decide +kernel
theorem dX12_layOut_97 : decode cX12_layOut 97 = .ok (.iconst 2, 1) := by decide +kernel
theorem dX12_layOut_98 : decode cX12_layOut 98 = .ok (.if_icmp .ne 45, 3) := by decide +kernel
theorem dX12_layOut_101 : decode cX12_layOut 101 = .ok (.aload_n 0, 1) := by decide +kernel
theorem dX12_layOut_102 : decode cX12_layOut 102 = .ok (.getfield 47, 3) := by decide +kernel
theorem dX12_layOut_105 : decode cX12_layOut 105 = .ok (.iload_n 3, 1) := by decide +kernel
theorem dX12_layOut_106 : decode cX12_layOut 106 = .ok (.iaload, 1) := by decide +kernel
theorem dX12_layOut_107 : decode cX12_layOut 107 = .ok (.aload_n 0, 1) := by decide +kernel
theorem dX12_layOut_108 : decode cX12_layOut 108 = .ok (.iload_n 3, 1) := by decide +kernel
theorem dX12_layOut_109 : decode cX12_layOut 109 = .ok (.iload 4, 2) := by decide +kernel
theorem dX12_layOut_111 : decode cX12_layOut 111 = .ok (.invokevirtual 193, 3) := by decide +kernel
theorem dX12_layOut_114 : decode cX12_layOut 114 = .ok (.iadd, 1) := by decide +kernel
theorem dX12_layOut_115 : decode cX12_layOut 115 = .ok (.iconst 2, 1) := by decide +kernel
theorem dX12_layOut_116 : decode cX12_layOut 116 = .ok (.iadd, 1) := by decide +kernel
theorem dX12_layOut_117 : decode cX12_layOut 117 = .ok (.aload_n 0, 1) := by decide +kernel
theorem dX12_layOut_118 : decode cX12_layOut 118 = .ok (.aload_n 0, 1) := by decide +kernel
theorem dX12_layOut_119 : decode cX12_layOut 119 = .ok (.iload_n 3, 1) := by decide +kernel
theorem dX12_layOut_120 : decode cX12_layOut 120 = .ok (.iload 4, 2) := by decide +kernel
theorem dX12_layOut_122 : decode cX12_layOut 122 = .ok (.invokevirtual 135, 3) := by decide +kernel
theorem dX12_layOut_125 : decode cX12_layOut 125 = .ok (.invokevirtual 202, 3) := by decide +kernel
theorem dX12_layOut_128 : decode cX12_layOut 128 = .ok (.isub, 1) := by decide +kernel
theorem dX12_layOut_129 : decode cX12_layOut 129 = .ok (.invokestatic 205, 3) := by decide +kernel
theorem dX12_layOut_132 : decode cX12_layOut 132 = .ok (.aload_n 0, 1) := by decide +kernel
theorem dX12_layOut_133 : decode cX12_layOut 133 = .ok (.getfield 70, 3) := by decide +kernel
theorem dX12_layOut_136 : decode cX12_layOut 136 = .ok (.if_icmp .le 7, 3) := by decide +kernel
theorem dX12_layOut_139 : decode cX12_layOut 139 = .ok (.iconst 1, 1) := by decide +kernel
theorem dX12_layOut_140 : decode cX12_layOut 140 = .ok (.goto 4, 3) := by decide +kernel
theorem dX12_layOut_143 : decode cX12_layOut 143 = .ok (.iconst 0, 1) := by decide +kernel
theorem dX12_layOut_144 : decode cX12_layOut 144 = .ok (.istore 5, 2) := by decide +kernel
theorem dX12_layOut_146 : decode cX12_layOut 146 = .ok (.aload_n 2, 1) := by decide +kernel
theorem dX12_layOut_147 : decode cX12_layOut 147 = .ok (.iload_n 3, 1) := by decide +kernel
theorem dX12_layOut_148 : decode cX12_layOut 148 = .ok (.bipush 8, 2) := by decide +kernel
theorem dX12_layOut_150 : decode cX12_layOut 150 = .ok (.imul, 1) := by decide +kernel
theorem dX12_layOut_151 : decode cX12_layOut 151 = .ok (.iload 4, 2) := by decide +kernel
theorem dX12_layOut_153 : decode cX12_layOut 153 = .ok (.iadd, 1) := by decide +kernel
theorem dX12_layOut_154 : decode cX12_layOut 154 = .ok (.iload 5, 2) := by decide +kernel
theorem dX12_layOut_156 : decode cX12_layOut 156 = .ok (.ifCond .ne 18, 3) := by decide +kernel
theorem dX12_layOut_159 : decode cX12_layOut 159 = .ok (.aload_n 0, 1) := by decide +kernel
theorem dX12_layOut_160 : decode cX12_layOut 160 = .ok (.getfield 53, 3) := by decide +kernel
theorem dX12_layOut_163 : decode cX12_layOut 163 = .ok (.iload_n 3, 1) := by decide +kernel
theorem dX12_layOut_164 : decode cX12_layOut 164 = .ok (.bipush 8, 2) := by decide +kernel
theorem dX12_layOut_166 : decode cX12_layOut 166 = .ok (.imul, 1) := by decide +kernel
theorem dX12_layOut_167 : decode cX12_layOut 167 = .ok (.iload 4, 2) := by decide +kernel
theorem dX12_layOut_169 : decode cX12_layOut 169 = .ok (.iadd, 1) := by decide +kernel
theorem dX12_layOut_170 : decode cX12_layOut 170 = .ok (.baload, 1) := by decide +kernel
theorem dX12_layOut_171 : decode cX12_layOut 171 = .ok (.ifCond .eq 7, 3) := by decide +kernel
theorem dX12_layOut_174 : decode cX12_layOut 174 = .ok (.iconst 1, 1) := by decide +kernel
theorem dX12_layOut_175 : decode cX12_layOut 175 = .ok (.goto 4, 3) := by decide +kernel
theorem dX12_layOut_178 : decode cX12_layOut 178 = .ok (.iconst 0, 1) := by decide +kernel
theorem dX12_layOut_179 : decode cX12_layOut 179 = .ok (.bastore, 1) := by decide +kernel
theorem dX12_layOut_180 : decode cX12_layOut 180 = .ok (.iload_n 1, 1) := by decide +kernel
theorem dX12_layOut_181 : decode cX12_layOut 181 = .ok (.iload 5, 2) := by decide +kernel
theorem dX12_layOut_183 : decode cX12_layOut 183 = .ok (.ifCond .eq 22, 3) := by decide +kernel
theorem dX12_layOut_186 : decode cX12_layOut 186 = .ok (.aload_n 0, 1) := by decide +kernel
theorem dX12_layOut_187 : decode cX12_layOut 187 = .ok (.getfield 53, 3) := by decide +kernel
theorem dX12_layOut_190 : decode cX12_layOut 190 = .ok (.iload_n 3, 1) := by decide +kernel
theorem dX12_layOut_191 : decode cX12_layOut 191 = .ok (.bipush 8, 2) := by decide +kernel
theorem dX12_layOut_193 : decode cX12_layOut 193 = .ok (.imul, 1) := by decide +kernel
theorem dX12_layOut_194 : decode cX12_layOut 194 = .ok (.iload 4, 2) := by decide +kernel
theorem dX12_layOut_196 : decode cX12_layOut 196 = .ok (.iadd, 1) := by decide +kernel
theorem dX12_layOut_197 : decode cX12_layOut 197 = .ok (.baload, 1) := by decide +kernel
theorem dX12_layOut_198 : decode cX12_layOut 198 = .ok (.ifCond .ne 7, 3) := by decide +kernel
theorem dX12_layOut_201 : decode cX12_layOut 201 = .ok (.iconst 1, 1) := by decide +kernel
theorem dX12_layOut_202 : decode cX12_layOut 202 = .ok (.goto 4, 3) := by decide +kernel
theorem dX12_layOut_205 : decode cX12_layOut 205 = .ok (.iconst 0, 1) := by decide +kernel
theorem dX12_layOut_206 : decode cX12_layOut 206 = .ok (.ior, 1) := by decide +kernel
theorem dX12_layOut_207 : decode cX12_layOut 207 = .ok (.istore_n 1, 1) := by decide +kernel
theorem dX12_layOut_208 : decode cX12_layOut 208 = .ok (.iinc 4 1, 3) := by decide +kernel
theorem dX12_layOut_211 : decode cX12_layOut 211 = .ok (.goto (-154), 3) := by decide +kernel
theorem dX12_layOut_214 : decode cX12_layOut 214 = .ok (.iinc 3 1, 3) := by decide +kernel
theorem dX12_layOut_217 : decode cX12_layOut 217 = .ok (.goto (-174), 3) := by decide +kernel
theorem dX12_layOut_220 : decode cX12_layOut 220 = .ok (.aload_n 2, 1) := by decide +kernel
theorem dX12_layOut_221 : decode cX12_layOut 221 = .ok (.iconst 0, 1) := by decide +kernel
theorem dX12_layOut_222 : decode cX12_layOut 222 = .ok (.aload_n 0, 1) := by decide +kernel
theorem dX12_layOut_223 : decode cX12_layOut 223 = .ok (.getfield 53, 3) := by decide +kernel
theorem dX12_layOut_226 : decode cX12_layOut 226 = .ok (.iconst 0, 1) := by decide +kernel
theorem dX12_layOut_227 : decode cX12_layOut 227 = .ok (.aload_n 2, 1) := by decide +kernel
theorem dX12_layOut_228 : decode cX12_layOut 228 = .ok (.arraylength, 1) := by decide +kernel
theorem dX12_layOut_229 : decode cX12_layOut 229 = .ok (.invokestatic 160, 3) := by decide +kernel
theorem dX12_layOut_232 : decode cX12_layOut 232 = .ok (.goto (-209), 3) := by decide +kernel
theorem dX12_layOut_235 : decode cX12_layOut 235 = .ok (.return_, 1) := by decide +kernel
def g_X12_layOut : Nat → EA := (t_n 115 (t_n 57 (t_n 28 (t_n 13 (t_n 5 (t_n 2 (t_n 1 (t_l 0 (a_push 1 (.int 0))) (t_l 1 (a_istore 6 1 1))) (t_n 3 (t_l 2 (a_iload 1 1)) (t_l 3 (a_push 2 (.int 24))))) (t_n 9 (t_n 8 (t_l 5 (a_ic 21 (fun x y => decide (y ≤ x)))) (t_l 8 (a_aload 1 0))) (t_n 12 (t_l 9 (a_getf 12 15)) (t_l 12 (a_iload 1 1))))) (t_n 21 (t_n 15 (t_n 14 (t_l 13 (a_push 1 (.int (-1)))) (t_l 14 (a_ist 0))) (t_n 18 (t_l 15 (a_iinc 6 1 1)) (t_l 18 (a_goto 2)))) (t_n 23 (t_n 22 (t_l 21 (a_push 1 (.int 1))) (t_l 22 (a_istore 6 1 1))) (t_n 24 (t_l 23 (a_iload 1 1)) (t_n 27 (t_l 24 (a_if 235 (fun x => decide (x = 0)))) (t_l 27 (a_aload 1 0))))))) (t_n 41 (t_n 34 (t_n 32 (t_n 31 (t_l 28 (a_inv true 218 1 (some 12))) (t_l 31 (a_push 1 (.int 0)))) (t_n 33 (t_l 32 (a_istore 6 1 1)) (t_l 33 (a_aload 1 0)))) (t_n 38 (t_n 37 (t_l 34 (a_getf 12 17)) (t_l 37 a_alen)) (t_n 40 (t_l 38 (a_newa 1)) (t_l 40 (a_astore 6 1 2))))) (t_n 45 (t_n 43 (t_n 42 (t_l 41 (a_push 1 (.int 0))) (t_l 42 (a_istore 6 1 3))) (t_n 44 (t_l 43 (a_iload 1 3)) (t_l 44 (a_aload 1 0)))) (t_n 51 (t_n 48 (t_l 45 (a_getf 12 24)) (t_l 48 (a_getf 13 2))) (t_n 54 (t_l 51 (a_ic 220 (fun x y => decide (y ≤ x)))) (t_n 55 (t_l 54 (a_push 1 (.int 0))) (t_l 55 (a_istore 6 2 4)))))))) (t_n 90 (t_n 72 (t_n 66 (t_n 60 (t_n 59 (t_l 57 (a_iload 2 4)) (t_l 59 (a_aload 1 0))) (t_n 63 (t_l 60 (a_getf 12 24)) (t_l 63 (a_getf 13 6)))) (t_n 68 (t_n 67 (t_l 66 (a_iload 1 3)) (t_l 67 (a_ild 0))) (t_n 71 (t_l 68 (a_ic 214 (fun x y => decide (y ≤ x)))) (t_l 71 (a_aload 1 0))))) (t_n 80 (t_n 76 (t_n 75 (t_l 72 (a_getf 12 14)) (t_l 75 (a_iload 1 3))) (t_n 77 (t_l 76 (a_ild 1)) (t_l 77 (a_if 214 (fun x => decide (x = 0)))))) (t_n 84 (t_n 81 (t_l 80 (a_aload 1 0)) (t_l 81 (a_getf 12 24))) (t_n 87 (t_l 84 (a_getf 13 8)) (t_n 88 (t_l 87 (a_iload 1 3)) (t_l 88 (a_push 2 (.int 8)))))))) (t_n 101 (t_n 95 (t_n 93 (t_n 91 (t_l 90 (a_ii 1 (fun x y => x * y))) (t_l 91 (a_iload 2 4))) (t_n 94 (t_l 93 (a_ii 1 (fun x y => x + y))) (t_l 94 (a_push 1 (.int 4))))) (t_n 97 (t_n 96 (t_l 95 (a_ii 1 (fun x y => x * y))) (t_l 96 (a_ild 0))) (t_n 98 (t_l 97 (a_push 1 (.int 2))) (t_l 98 (a_ic 143 (fun x y => !decide (x = y))))))) (t_n 107 (t_n 105 (t_n 102 (t_l 101 (a_aload 1 0)) (t_l 102 (a_getf 12 15))) (t_n 106 (t_l 105 (a_iload 1 3)) (t_l 106 (a_ild 0)))) (t_n 109 (t_n 108 (t_l 107 (a_aload 1 0)) (t_l 108 (a_iload 1 3))) (t_n 111 (t_l 109 (a_iload 2 4)) (t_n 114 (t_l 111 (a_inv true 216 3 (some 12))) (t_l 114 (a_ii 1 (fun x y => x + y)))))))))) (t_n 174 (t_n 146 (t_n 128 (t_n 119 (t_n 117 (t_n 116 (t_l 115 (a_push 1 (.int 2))) (t_l 116 (a_ii 1 (fun x y => x + y)))) (t_n 118 (t_l 117 (a_aload 1 0)) (t_l 118 (a_aload 1 0)))) (t_n 122 (t_n 120 (t_l 119 (a_iload 1 3)) (t_l 120 (a_iload 2 4))) (t_n 125 (t_l 122 (a_inv true 208 3 (some 12))) (t_l 125 (a_inv true 219 2 (some 12)))))) (t_n 136 (t_n 132 (t_n 129 (t_l 128 (a_ii 1 (fun x y => x - y))) (t_l 129 (a_inv true 291 1 none))) (t_n 133 (t_l 132 (a_aload 1 0)) (t_l 133 (a_getf 12 1)))) (t_n 140 (t_n 139 (t_l 136 (a_ic 143 (fun x y => decide (x ≤ y)))) (t_l 139 (a_push 1 (.int 1)))) (t_n 143 (t_l 140 (a_goto 144)) (t_n 144 (t_l 143 (a_push 1 (.int 0))) (t_l 144 (a_istore 6 2 5))))))) (t_n 159 (t_n 151 (t_n 148 (t_n 147 (t_l 146 (a_aload 1 2)) (t_l 147 (a_iload 1 3))) (t_n 150 (t_l 148 (a_push 2 (.int 8))) (t_l 150 (a_ii 1 (fun x y => x * y))))) (t_n 154 (t_n 153 (t_l 151 (a_iload 2 4)) (t_l 153 (a_ii 1 (fun x y => x + y)))) (t_n 156 (t_l 154 (a_iload 2 5)) (t_l 156 (a_if 174 (fun x => !decide (x = 0))))))) (t_n 166 (t_n 163 (t_n 160 (t_l 159 (a_aload 1 0)) (t_l 160 (a_getf 12 17))) (t_n 164 (t_l 163 (a_iload 1 3)) (t_l 164 (a_push 2 (.int 8))))) (t_n 169 (t_n 167 (t_l 166 (a_ii 1 (fun x y => x * y))) (t_l 167 (a_iload 2 4))) (t_n 170 (t_l 169 (a_ii 1 (fun x y => x + y))) (t_n 171 (t_l 170 (a_ild 1)) (t_l 171 (a_if 178 (fun x => decide (x = 0)))))))))) (t_n 202 (t_n 187 (t_n 180 (t_n 178 (t_n 175 (t_l 174 (a_push 1 (.int 1))) (t_l 175 (a_goto 179))) (t_n 179 (t_l 178 (a_push 1 (.int 0))) (t_l 179 (a_ist 1)))) (t_n 183 (t_n 181 (t_l 180 (a_iload 1 1)) (t_l 181 (a_iload 2 5))) (t_n 186 (t_l 183 (a_if 205 (fun x => decide (x = 0)))) (t_l 186 (a_aload 1 0))))) (t_n 194 (t_n 191 (t_n 190 (t_l 187 (a_getf 12 17)) (t_l 190 (a_iload 1 3))) (t_n 193 (t_l 191 (a_push 2 (.int 8))) (t_l 193 (a_ii 1 (fun x y => x * y))))) (t_n 197 (t_n 196 (t_l 194 (a_iload 2 4)) (t_l 196 (a_ii 1 (fun x y => x + y)))) (t_n 198 (t_l 197 (a_ild 1)) (t_n 201 (t_l 198 (a_if 205 (fun x => !decide (x = 0)))) (t_l 201 (a_push 1 (.int 1)))))))) (t_n 221 (t_n 208 (t_n 206 (t_n 205 (t_l 202 (a_goto 206)) (t_l 205 (a_push 1 (.int 0)))) (t_n 207 (t_l 206 (a_ii 1 (fun x y => x ||| y))) (t_l 207 (a_istore 6 1 1)))) (t_n 214 (t_n 211 (t_l 208 (a_iinc 6 4 1)) (t_l 211 (a_goto 57))) (t_n 217 (t_l 214 (a_iinc 6 3 1)) (t_n 220 (t_l 217 (a_goto 43)) (t_l 220 (a_aload 1 2)))))) (t_n 227 (t_n 223 (t_n 222 (t_l 221 (a_push 1 (.int 0))) (t_l 222 (a_aload 1 0))) (t_n 226 (t_l 223 (a_getf 12 17)) (t_l 226 (a_push 1 (.int 0))))) (t_n 229 (t_n 228 (t_l 227 (a_aload 1 2)) (t_l 228 a_alen)) (t_n 232 (t_l 229 (a_copy 1)) (t_n 235 (t_l 232 (a_goto 23)) (t_l 235 a_vret)))))))))
set_option maxRecDepth 100000 in
theorem k_X12_layOut (d : Nat) : ∀ pc, ev_Ok cX12_layOut 6 [] RX12 lw_g lw_n lw_q vwCl false (ev_CO mt lw_g lw_n lw_q vwCl d) pc (g_X12_layOut pc) := (ok_t_n (ok_t_n (ok_t_n (ok_t_n (ok_t_n (ok_t_n (ok_t_n (ok_t_l (ok_iconst dX12_layOut_0 rfl)) (ok_t_l (ok_istore_n dX12_layOut_1 rfl))) (ok_t_n (ok_t_l (ok_iload_n dX12_layOut_2 rfl)) (ok_t_l (ok_bipush dX12_layOut_3 rfl)))) (ok_t_n (ok_t_n (ok_t_l (ok_icmp_ge dX12_layOut_5 rfl)) (ok_t_l (ok_aload_n dX12_layOut_8 rfl))) (ok_t_n (ok_t_l (ok_getfield dX12_layOut_9 (ci := 12) (kf := 15) rfl inGX12 (by decide) w_1874)) (ok_t_l (ok_iload_n dX12_layOut_12 rfl))))) (ok_t_n (ok_t_n (ok_t_n (ok_t_l (ok_iconst dX12_layOut_13 rfl)) (ok_t_l (ok_iastore dX12_layOut_14))) (ok_t_n (ok_t_l (ok_iinc dX12_layOut_15 rfl)) (ok_t_l (ok_goto dX12_layOut_18 rfl)))) (ok_t_n (ok_t_n (ok_t_l (ok_iconst dX12_layOut_21 rfl)) (ok_t_l (ok_istore_n dX12_layOut_22 rfl))) (ok_t_n (ok_t_l (ok_iload_n dX12_layOut_23 rfl)) (ok_t_n (ok_t_l (ok_if_eq dX12_layOut_24 rfl)) (ok_t_l (ok_aload_n dX12_layOut_27 rfl))))))) (ok_t_n (ok_t_n (ok_t_n (ok_t_n (ok_t_l (ok_inv (run_V (y := 218) (n := 0) (ci := 12) dX12_layOut_28 cz_218 gdG cc_218 ci_218 w_1823 cm_218 cs_218 cd_218 cl_218 rfl rfl))) (ok_t_l (ok_iconst dX12_layOut_31 rfl))) (ok_t_n (ok_t_l (ok_istore_n dX12_layOut_32 rfl)) (ok_t_l (ok_aload_n dX12_layOut_33 rfl)))) (ok_t_n (ok_t_n (ok_t_l (ok_getfield dX12_layOut_34 (ci := 12) (kf := 17) rfl inGX12 (by decide) w_1878)) (ok_t_l (ok_arraylength dX12_layOut_37))) (ok_t_n (ok_t_l (ok_newboolean dX12_layOut_38 w_187)) (ok_t_l (ok_astore_n dX12_layOut_40 rfl))))) (ok_t_n (ok_t_n (ok_t_n (ok_t_l (ok_iconst dX12_layOut_41 rfl)) (ok_t_l (ok_istore_n dX12_layOut_42 rfl))) (ok_t_n (ok_t_l (ok_iload_n dX12_layOut_43 rfl)) (ok_t_l (ok_aload_n dX12_layOut_44 rfl)))) (ok_t_n (ok_t_n (ok_t_l (ok_getfield dX12_layOut_45 (ci := 12) (kf := 24) rfl inGX12 (by decide) w_1891)) (ok_t_l (ok_getfieldN dX12_layOut_48 (ci := 13) (kf := 2) rfl inGX13 (by decide) (nst_31)))) (ok_t_n (ok_t_l (ok_icmp_ge dX12_layOut_51 rfl)) (ok_t_n (ok_t_l (ok_iconst dX12_layOut_54 rfl)) (ok_t_l (ok_istore dX12_layOut_55)))))))) (ok_t_n (ok_t_n (ok_t_n (ok_t_n (ok_t_n (ok_t_l (ok_iload dX12_layOut_57)) (ok_t_l (ok_aload_n dX12_layOut_59 rfl))) (ok_t_n (ok_t_l (ok_getfield dX12_layOut_60 (ci := 12) (kf := 24) rfl inGX12 (by decide) w_1891)) (ok_t_l (ok_getfieldN dX12_layOut_63 (ci := 13) (kf := 6) rfl inGX13 (by decide) (nst_35))))) (ok_t_n (ok_t_n (ok_t_l (ok_iload_n dX12_layOut_66 rfl)) (ok_t_l (ok_iaload dX12_layOut_67))) (ok_t_n (ok_t_l (ok_icmp_ge dX12_layOut_68 rfl)) (ok_t_l (ok_aload_n dX12_layOut_71 rfl))))) (ok_t_n (ok_t_n (ok_t_n (ok_t_l (ok_getfield dX12_layOut_72 (ci := 12) (kf := 14) rfl inGX12 (by decide) w_1872)) (ok_t_l (ok_iload_n dX12_layOut_75 rfl))) (ok_t_n (ok_t_l (ok_zaload dX12_layOut_76)) (ok_t_l (ok_if_eq dX12_layOut_77 rfl)))) (ok_t_n (ok_t_n (ok_t_l (ok_aload_n dX12_layOut_80 rfl)) (ok_t_l (ok_getfield dX12_layOut_81 (ci := 12) (kf := 24) rfl inGX12 (by decide) w_1891))) (ok_t_n (ok_t_l (ok_getfieldN dX12_layOut_84 (ci := 13) (kf := 8) rfl inGX13 (by decide) (nst_37))) (ok_t_n (ok_t_l (ok_iload_n dX12_layOut_87 rfl)) (ok_t_l (ok_bipush dX12_layOut_88 rfl))))))) (ok_t_n (ok_t_n (ok_t_n (ok_t_n (ok_t_l (ok_imul dX12_layOut_90)) (ok_t_l (ok_iload dX12_layOut_91))) (ok_t_n (ok_t_l (ok_iadd dX12_layOut_93)) (ok_t_l (ok_iconst dX12_layOut_94 rfl)))) (ok_t_n (ok_t_n (ok_t_l (ok_imul dX12_layOut_95)) (ok_t_l (ok_iaload dX12_layOut_96))) (ok_t_n (ok_t_l (ok_iconst dX12_layOut_97 rfl)) (ok_t_l (ok_icmp_ne dX12_layOut_98 rfl))))) (ok_t_n (ok_t_n (ok_t_n (ok_t_l (ok_aload_n dX12_layOut_101 rfl)) (ok_t_l (ok_getfield dX12_layOut_102 (ci := 12) (kf := 15) rfl inGX12 (by decide) w_1874))) (ok_t_n (ok_t_l (ok_iload_n dX12_layOut_105 rfl)) (ok_t_l (ok_iaload dX12_layOut_106)))) (ok_t_n (ok_t_n (ok_t_l (ok_aload_n dX12_layOut_107 rfl)) (ok_t_l (ok_iload_n dX12_layOut_108 rfl))) (ok_t_n (ok_t_l (ok_iload dX12_layOut_109)) (ok_t_n (ok_t_l (ok_inv (run_V (y := 216) (n := 2) (ci := 12) dX12_layOut_111 cz_216 gdG cc_216 ci_216 w_1830 cm_216 cs_216 cd_216 cl_216 rfl rfl))) (ok_t_l (ok_iadd dX12_layOut_114))))))))) (ok_t_n (ok_t_n (ok_t_n (ok_t_n (ok_t_n (ok_t_n (ok_t_l (ok_iconst dX12_layOut_115 rfl)) (ok_t_l (ok_iadd dX12_layOut_116))) (ok_t_n (ok_t_l (ok_aload_n dX12_layOut_117 rfl)) (ok_t_l (ok_aload_n dX12_layOut_118 rfl)))) (ok_t_n (ok_t_n (ok_t_l (ok_iload_n dX12_layOut_119 rfl)) (ok_t_l (ok_iload dX12_layOut_120))) (ok_t_n (ok_t_l (ok_inv (run_V (y := 208) (n := 2) (ci := 12) dX12_layOut_122 cz_208 gdG cc_208 ci_208 w_1787 cm_208 cs_208 cd_208 cl_208 rfl rfl))) (ok_t_l (ok_inv (run_V (y := 219) (n := 1) (ci := 12) dX12_layOut_125 cz_219 gdG cc_219 ci_219 w_1838 cm_219 cs_219 cd_219 cl_219 rfl rfl)))))) (ok_t_n (ok_t_n (ok_t_n (ok_t_l (ok_isub dX12_layOut_128)) (ok_t_l (ok_inv (run_S (y := 291) (n := 1) dX12_layOut_129 cz_291 gdG cc_291 ci_291 w_1842 cm_291 cd_291 cl_291)))) (ok_t_n (ok_t_l (ok_aload_n dX12_layOut_132 rfl)) (ok_t_l (ok_getfield dX12_layOut_133 (ci := 12) (kf := 1) rfl inGX12 (by decide) w_1854)))) (ok_t_n (ok_t_n (ok_t_l (ok_icmp_le dX12_layOut_136 rfl)) (ok_t_l (ok_iconst dX12_layOut_139 rfl))) (ok_t_n (ok_t_l (ok_goto dX12_layOut_140 rfl)) (ok_t_n (ok_t_l (ok_iconst dX12_layOut_143 rfl)) (ok_t_l (ok_istore dX12_layOut_144))))))) (ok_t_n (ok_t_n (ok_t_n (ok_t_n (ok_t_l (ok_aload_n dX12_layOut_146 rfl)) (ok_t_l (ok_iload_n dX12_layOut_147 rfl))) (ok_t_n (ok_t_l (ok_bipush dX12_layOut_148 rfl)) (ok_t_l (ok_imul dX12_layOut_150)))) (ok_t_n (ok_t_n (ok_t_l (ok_iload dX12_layOut_151)) (ok_t_l (ok_iadd dX12_layOut_153))) (ok_t_n (ok_t_l (ok_iload dX12_layOut_154)) (ok_t_l (ok_if_ne dX12_layOut_156 rfl))))) (ok_t_n (ok_t_n (ok_t_n (ok_t_l (ok_aload_n dX12_layOut_159 rfl)) (ok_t_l (ok_getfield dX12_layOut_160 (ci := 12) (kf := 17) rfl inGX12 (by decide) w_1878))) (ok_t_n (ok_t_l (ok_iload_n dX12_layOut_163 rfl)) (ok_t_l (ok_bipush dX12_layOut_164 rfl)))) (ok_t_n (ok_t_n (ok_t_l (ok_imul dX12_layOut_166)) (ok_t_l (ok_iload dX12_layOut_167))) (ok_t_n (ok_t_l (ok_iadd dX12_layOut_169)) (ok_t_n (ok_t_l (ok_zaload dX12_layOut_170)) (ok_t_l (ok_if_eq dX12_layOut_171 rfl)))))))) (ok_t_n (ok_t_n (ok_t_n (ok_t_n (ok_t_n (ok_t_l (ok_iconst dX12_layOut_174 rfl)) (ok_t_l (ok_goto dX12_layOut_175 rfl))) (ok_t_n (ok_t_l (ok_iconst dX12_layOut_178 rfl)) (ok_t_l (ok_zastore dX12_layOut_179)))) (ok_t_n (ok_t_n (ok_t_l (ok_iload_n dX12_layOut_180 rfl)) (ok_t_l (ok_iload dX12_layOut_181))) (ok_t_n (ok_t_l (ok_if_eq dX12_layOut_183 rfl)) (ok_t_l (ok_aload_n dX12_layOut_186 rfl))))) (ok_t_n (ok_t_n (ok_t_n (ok_t_l (ok_getfield dX12_layOut_187 (ci := 12) (kf := 17) rfl inGX12 (by decide) w_1878)) (ok_t_l (ok_iload_n dX12_layOut_190 rfl))) (ok_t_n (ok_t_l (ok_bipush dX12_layOut_191 rfl)) (ok_t_l (ok_imul dX12_layOut_193)))) (ok_t_n (ok_t_n (ok_t_l (ok_iload dX12_layOut_194)) (ok_t_l (ok_iadd dX12_layOut_196))) (ok_t_n (ok_t_l (ok_zaload dX12_layOut_197)) (ok_t_n (ok_t_l (ok_if_ne dX12_layOut_198 rfl)) (ok_t_l (ok_iconst dX12_layOut_201 rfl))))))) (ok_t_n (ok_t_n (ok_t_n (ok_t_n (ok_t_l (ok_goto dX12_layOut_202 rfl)) (ok_t_l (ok_iconst dX12_layOut_205 rfl))) (ok_t_n (ok_t_l (ok_ior dX12_layOut_206)) (ok_t_l (ok_istore_n dX12_layOut_207 rfl)))) (ok_t_n (ok_t_n (ok_t_l (ok_iinc dX12_layOut_208 rfl)) (ok_t_l (ok_goto dX12_layOut_211 rfl))) (ok_t_n (ok_t_l (ok_iinc dX12_layOut_214 rfl)) (ok_t_n (ok_t_l (ok_goto dX12_layOut_217 rfl)) (ok_t_l (ok_aload_n dX12_layOut_220 rfl)))))) (ok_t_n (ok_t_n (ok_t_n (ok_t_l (ok_iconst dX12_layOut_221 rfl)) (ok_t_l (ok_aload_n dX12_layOut_222 rfl))) (ok_t_n (ok_t_l (ok_getfield dX12_layOut_223 (ci := 12) (kf := 17) rfl inGX12 (by decide) w_1878)) (ok_t_l (ok_iconst dX12_layOut_226 rfl)))) (ok_t_n (ok_t_n (ok_t_l (ok_aload_n dX12_layOut_227 rfl)) (ok_t_l (ok_arraylength dX12_layOut_228))) (ok_t_n (ok_t_l (ok_copyz dX12_layOut_229 w_1804 w_1806 w_1805 w_106 ev_CO.small2)) (ok_t_n (ok_t_l (ok_goto dX12_layOut_232 rfl)) (ok_t_l (ok_vreturn dX12_layOut_235))))))))))
theorem dX12_write_0 : decode cX12_write 0 = .ok (.aload_n 0, 1) := by decide +kernel
theorem dX12_write_1 : decode cX12_write 1 = .ok (.aload_n 0, 1) := by decide +kernel
theorem dX12_write_2 : decode cX12_write 2 = .ok (.getfield 196, 3) := by decide +kernel
theorem dX12_write_5 : decode cX12_write 5 = .ok (.newarray .int, 2) := by decide +kernel
theorem dX12_write_7 : decode cX12_write 7 = .ok (.putfield 59, 3) := by decide +kernel
theorem dX12_write_10 : decode cX12_write 10 = .ok (.iconst 0, 1) := by decide +kernel
theorem dX12_write_11 : decode cX12_write 11 = .ok (.istore_n 1, 1) := by decide +kernel
theorem dX12_write_12 : decode cX12_write 12 = .ok (.iload_n 1, 1) := by decide +kernel
theorem dX12_write_13 : decode cX12_write 13 = .ok (.aload_n 0, 1) := by decide +kernel
theorem dX12_write_14 : decode cX12_write 14 = .ok (.getfield 117, 3) := by decide +kernel
theorem dX12_write_17 : decode cX12_write 17 = .ok (.if_icmp .ge 95, 3) := by decide +kernel
theorem dX12_write_20 : decode cX12_write 20 = .ok (.iconst 0, 1) := by decide +kernel
theorem dX12_write_21 : decode cX12_write 21 = .ok (.istore_n 2, 1) := by decide +kernel
theorem dX12_write_22 : decode cX12_write 22 = .ok (.iload_n 2, 1) := by decide +kernel
theorem dX12_write_23 : decode cX12_write 23 = .ok (.aload_n 0, 1) := by decide +kernel
theorem dX12_write_24 : decode cX12_write 24 = .ok (.getfield 3, 3) := by decide +kernel
theorem dX12_write_27 : decode cX12_write 27 = .ok (.getfield 126, 3) := by decide +kernel
theorem dX12_write_30 : decode cX12_write 30 = .ok (.if_icmp .ge 76, 3) := by decide +kernel
theorem dX12_write_33 : decode cX12_write 33 = .ok (.aload_n 0, 1) := by decide +kernel
theorem dX12_write_34 : decode cX12_write 34 = .ok (.getfield 3, 3) := by decide +kernel
theorem dX12_write_37 : decode cX12_write 37 = .ok (.getfield 129, 3) := by decide +kernel
theorem dX12_write_40 : decode cX12_write 40 = .ok (.iload_n 2, 1) := by decide +kernel
theorem dX12_write_41 : decode cX12_write 41 = .ok (.iaload, 1) := by decide +kernel
theorem dX12_write_42 : decode cX12_write 42 = .ok (.aload_n 0, 1) := by decide +kernel
theorem dX12_write_43 : decode cX12_write 43 = .ok (.getfield 15, 3) := by decide +kernel
theorem dX12_write_46 : decode cX12_write 46 = .ok (.iload_n 1, 1) := by decide +kernel
theorem dX12_write_47 : decode cX12_write 47 = .ok (.iaload, 1) := by decide +kernel
theorem dX12_write_48 : decode cX12_write 48 = .ok (.if_icmp .ne 52, 3) := by decide +kernel
theorem dX12_write_51 : decode cX12_write 51 = .ok (.aload_n 0, 1) := by decide +kernel
theorem dX12_write_52 : decode cX12_write 52 = .ok (.getfield 44, 3) := by decide +kernel
theorem dX12_write_55 : decode cX12_write 55 = .ok (.iload_n 2, 1) := by decide +kernel
theorem dX12_write_56 : decode cX12_write 56 = .ok (.baload, 1) := by decide +kernel
theorem dX12_write_57 : decode cX12_write 57 = .ok (.ifCond .eq 43, 3) := by decide +kernel
theorem dX12_write_60 : decode cX12_write 60 = .ok (.iconst 0, 1) := by decide +kernel
theorem dX12_write_61 : decode cX12_write 61 = .ok (.istore_n 3, 1) := by decide +kernel
theorem dX12_write_62 : decode cX12_write 62 = .ok (.iload_n 3, 1) := by decide +kernel
theorem dX12_write_63 : decode cX12_write 63 = .ok (.aload_n 0, 1) := by decide +kernel
theorem dX12_write_64 : decode cX12_write 64 = .ok (.getfield 3, 3) := by decide +kernel
theorem dX12_write_67 : decode cX12_write 67 = .ok (.getfield 132, 3) := by decide +kernel
theorem dX12_write_70 : decode cX12_write 70 = .ok (.iload_n 2, 1) := by decide +kernel
theorem dX12_write_71 : decode cX12_write 71 = .ok (.iaload, 1) := by decide +kernel
theorem dX12_write_72 : decode cX12_write 72 = .ok (.if_icmp .ge 28, 3) := by decide +kernel
theorem dX12_write_75 : decode cX12_write 75 = .ok (.aload_n 0, 1) := by decide +kernel
theorem dX12_write_76 : decode cX12_write 76 = .ok (.iload_n 2, 1) := by decide +kernel
theorem dX12_write_77 : decode cX12_write 77 = .ok (.iload_n 3, 1) := by decide +kernel
theorem dX12_write_78 : decode cX12_write 78 = .ok (.aload_n 0, 1) := by decide +kernel
theorem dX12_write_79 : decode cX12_write 79 = .ok (.getfield 47, 3) := by decide +kernel
theorem dX12_write_82 : decode cX12_write 82 = .ok (.iload_n 2, 1) := by decide +kernel
theorem dX12_write_83 : decode cX12_write 83 = .ok (.iaload, 1) := by decide +kernel
theorem dX12_write_84 : decode cX12_write 84 = .ok (.aload_n 0, 1) := by decide +kernel
theorem dX12_write_85 : decode cX12_write 85 = .ok (.iload_n 2, 1) := by decide +kernel
theorem dX12_write_86 : decode cX12_write 86 = .ok (.iload_n 3, 1) := by decide +kernel
theorem dX12_write_87 : decode cX12_write 87 = .ok (.invokevirtual 193, 3) := by decide +kernel
theorem dX12_write_90 : decode cX12_write 90 = .ok (.iadd, 1) := by decide +kernel
theorem dX12_write_91 : decode cX12_write 91 = .ok (.invokevirtual 208, 3) := by decide +kernel
theorem dX12_write_94 : decode cX12_write 94 = .ok (.iinc 3 1, 3) := by decide +kernel
theorem dX12_write_97 : decode cX12_write 97 = .ok (.goto (-35), 3) := by decide +kernel
theorem dX12_write_100 : decode cX12_write 100 = .ok (.iinc 2 1, 3) := by decide +kernel
theorem dX12_write_103 : decode cX12_write 103 = .ok (.goto (-81), 3) := by decide +kernel
theorem dX12_write_106 : decode cX12_write 106 = .ok (.iinc 1 1, 3) := by decide +kernel
theorem dX12_write_109 : decode cX12_write 109 = .ok (.goto (-97), 3) := by decide +kernel
theorem dX12_write_112 : decode cX12_write 112 = .ok (.return_, 1) := by decide +kernel
def g_X12_write : Nat → EA := (t_n 56 (t_n 24 (t_n 12 (t_n 5 (t_n 1 (t_l 0 (a_aload 1 0)) (t_n 2 (t_l 1 (a_aload 1 0)) (t_l 2 (a_getf 12 19)))) (t_n 10 (t_n 7 (t_l 5 (a_newa 0)) (t_l 7 (a_putf 9 12 23))) (t_n 11 (t_l 10 (a_push 1 (.int 0))) (t_l 11 (a_istore 4 1 1))))) (t_n 20 (t_n 14 (t_n 13 (t_l 12 (a_iload 1 1)) (t_l 13 (a_aload 1 0))) (t_n 17 (t_l 14 (a_getf 12 4)) (t_l 17 (a_ic 112 (fun x y => decide (y ≤ x)))))) (t_n 22 (t_n 21 (t_l 20 (a_push 1 (.int 0))) (t_l 21 (a_istore 4 1 2))) (t_n 23 (t_l 22 (a_iload 1 2)) (t_l 23 (a_aload 1 0)))))) (t_n 42 (t_n 34 (t_n 30 (t_n 27 (t_l 24 (a_getf 12 24)) (t_l 27 (a_getf 13 2))) (t_n 33 (t_l 30 (a_ic 106 (fun x y => decide (y ≤ x)))) (t_l 33 (a_aload 1 0)))) (t_n 40 (t_n 37 (t_l 34 (a_getf 12 24)) (t_l 37 (a_getf 13 4))) (t_n 41 (t_l 40 (a_iload 1 2)) (t_l 41 (a_ild 0))))) (t_n 48 (t_n 46 (t_n 43 (t_l 42 (a_aload 1 0)) (t_l 43 (a_getf 12 5))) (t_n 47 (t_l 46 (a_iload 1 1)) (t_l 47 (a_ild 0)))) (t_n 52 (t_n 51 (t_l 48 (a_ic 100 (fun x y => !decide (x = y)))) (t_l 51 (a_aload 1 0))) (t_n 55 (t_l 52 (a_getf 12 14)) (t_l 55 (a_iload 1 2))))))) (t_n 79 (t_n 67 (t_n 61 (t_n 57 (t_l 56 (a_ild 1)) (t_n 60 (t_l 57 (a_if 100 (fun x => decide (x = 0)))) (t_l 60 (a_push 1 (.int 0))))) (t_n 63 (t_n 62 (t_l 61 (a_istore 4 1 3)) (t_l 62 (a_iload 1 3))) (t_n 64 (t_l 63 (a_aload 1 0)) (t_l 64 (a_getf 12 24))))) (t_n 75 (t_n 71 (t_n 70 (t_l 67 (a_getf 13 6)) (t_l 70 (a_iload 1 2))) (t_n 72 (t_l 71 (a_ild 0)) (t_l 72 (a_ic 100 (fun x y => decide (y ≤ x)))))) (t_n 77 (t_n 76 (t_l 75 (a_aload 1 0)) (t_l 76 (a_iload 1 2))) (t_n 78 (t_l 77 (a_iload 1 3)) (t_l 78 (a_aload 1 0)))))) (t_n 91 (t_n 85 (t_n 83 (t_n 82 (t_l 79 (a_getf 12 15)) (t_l 82 (a_iload 1 2))) (t_n 84 (t_l 83 (a_ild 0)) (t_l 84 (a_aload 1 0)))) (t_n 87 (t_n 86 (t_l 85 (a_iload 1 2)) (t_l 86 (a_iload 1 3))) (t_n 90 (t_l 87 (a_inv true 216 3 (some 12))) (t_l 90 (a_ii 1 (fun x y => x + y)))))) (t_n 103 (t_n 97 (t_n 94 (t_l 91 (a_inv true 222 4 (some 12))) (t_l 94 (a_iinc 4 3 1))) (t_n 100 (t_l 97 (a_goto 62)) (t_l 100 (a_iinc 4 2 1)))) (t_n 109 (t_n 106 (t_l 103 (a_goto 22)) (t_l 106 (a_iinc 4 1 1))) (t_n 112 (t_l 109 (a_goto 12)) (t_l 112 a_vret)))))))
set_option maxRecDepth 100000 in
theorem k_X12_write (d : Nat) : ∀ pc, ev_Ok cX12_write 4 [] RX12 lw_g lw_n lw_q vwCl false (ev_CO mt lw_g lw_n lw_q vwCl d) pc (g_X12_write pc) := (ok_t_n (ok_t_n (ok_t_n (ok_t_n (ok_t_n (ok_t_l (ok_aload_n dX12_write_0 rfl)) (ok_t_n (ok_t_l (ok_aload_n dX12_write_1 rfl)) (ok_t_l (ok_getfield dX12_write_2 (ci := 12) (kf := 19) rfl inGX12 (by decide) w_1881)))) (ok_t_n (ok_t_n (ok_t_l (ok_newint dX12_write_5 w_152)) (ok_t_l (ok_putfield dX12_write_7 (ci := 12) (kf := 23) rfl inGX12 (by decide) tyX12_ok nmX12 rfl w_1889 rfl))) (ok_t_n (ok_t_l (ok_iconst dX12_write_10 rfl)) (ok_t_l (ok_istore_n dX12_write_11 rfl))))) (ok_t_n (ok_t_n (ok_t_n (ok_t_l (ok_iload_n dX12_write_12 rfl)) (ok_t_l (ok_aload_n dX12_write_13 rfl))) (ok_t_n (ok_t_l (ok_getfield dX12_write_14 (ci := 12) (kf := 4) rfl inGX12 (by decide) w_1858)) (ok_t_l (ok_icmp_ge dX12_write_17 rfl)))) (ok_t_n (ok_t_n (ok_t_l (ok_iconst dX12_write_20 rfl)) (ok_t_l (ok_istore_n dX12_write_21 rfl))) (ok_t_n (ok_t_l (ok_iload_n dX12_write_22 rfl)) (ok_t_l (ok_aload_n dX12_write_23 rfl)))))) (ok_t_n (ok_t_n (ok_t_n (ok_t_n (ok_t_l (ok_getfield dX12_write_24 (ci := 12) (kf := 24) rfl inGX12 (by decide) w_1891)) (ok_t_l (ok_getfieldN dX12_write_27 (ci := 13) (kf := 2) rfl inGX13 (by decide) (nst_31)))) (ok_t_n (ok_t_l (ok_icmp_ge dX12_write_30 rfl)) (ok_t_l (ok_aload_n dX12_write_33 rfl)))) (ok_t_n (ok_t_n (ok_t_l (ok_getfield dX12_write_34 (ci := 12) (kf := 24) rfl inGX12 (by decide) w_1891)) (ok_t_l (ok_getfieldN dX12_write_37 (ci := 13) (kf := 4) rfl inGX13 (by decide) (nst_33)))) (ok_t_n (ok_t_l (ok_iload_n dX12_write_40 rfl)) (ok_t_l (ok_iaload dX12_write_41))))) (ok_t_n (ok_t_n (ok_t_n (ok_t_l (ok_aload_n dX12_write_42 rfl)) (ok_t_l (ok_getfield dX12_write_43 (ci := 12) (kf := 5) rfl inGX12 (by decide) w_1860))) (ok_t_n (ok_t_l (ok_iload_n dX12_write_46 rfl)) (ok_t_l (ok_iaload dX12_write_47)))) (ok_t_n (ok_t_n (ok_t_l (ok_icmp_ne dX12_write_48 rfl)) (ok_t_l (ok_aload_n dX12_write_51 rfl))) (ok_t_n (ok_t_l (ok_getfield dX12_write_52 (ci := 12) (kf := 14) rfl inGX12 (by decide) w_1872)) (ok_t_l (ok_iload_n dX12_write_55 rfl))))))) (ok_t_n (ok_t_n (ok_t_n (ok_t_n (ok_t_l (ok_zaload dX12_write_56)) (ok_t_n (ok_t_l (ok_if_eq dX12_write_57 rfl)) (ok_t_l (ok_iconst dX12_write_60 rfl)))) (ok_t_n (ok_t_n (ok_t_l (ok_istore_n dX12_write_61 rfl)) (ok_t_l (ok_iload_n dX12_write_62 rfl))) (ok_t_n (ok_t_l (ok_aload_n dX12_write_63 rfl)) (ok_t_l (ok_getfield dX12_write_64 (ci := 12) (kf := 24) rfl inGX12 (by decide) w_1891))))) (ok_t_n (ok_t_n (ok_t_n (ok_t_l (ok_getfieldN dX12_write_67 (ci := 13) (kf := 6) rfl inGX13 (by decide) (nst_35))) (ok_t_l (ok_iload_n dX12_write_70 rfl))) (ok_t_n (ok_t_l (ok_iaload dX12_write_71)) (ok_t_l (ok_icmp_ge dX12_write_72 rfl)))) (ok_t_n (ok_t_n (ok_t_l (ok_aload_n dX12_write_75 rfl)) (ok_t_l (ok_iload_n dX12_write_76 rfl))) (ok_t_n (ok_t_l (ok_iload_n dX12_write_77 rfl)) (ok_t_l (ok_aload_n dX12_write_78 rfl)))))) (ok_t_n (ok_t_n (ok_t_n (ok_t_n (ok_t_l (ok_getfield dX12_write_79 (ci := 12) (kf := 15) rfl inGX12 (by decide) w_1874)) (ok_t_l (ok_iload_n dX12_write_82 rfl))) (ok_t_n (ok_t_l (ok_iaload dX12_write_83)) (ok_t_l (ok_aload_n dX12_write_84 rfl)))) (ok_t_n (ok_t_n (ok_t_l (ok_iload_n dX12_write_85 rfl)) (ok_t_l (ok_iload_n dX12_write_86 rfl))) (ok_t_n (ok_t_l (ok_inv (run_V (y := 216) (n := 2) (ci := 12) dX12_write_87 cz_216 gdG cc_216 ci_216 w_1830 cm_216 cs_216 cd_216 cl_216 rfl rfl))) (ok_t_l (ok_iadd dX12_write_90))))) (ok_t_n (ok_t_n (ok_t_n (ok_t_l (ok_inv (run_V (y := 222) (n := 3) (ci := 12) dX12_write_91 cz_222 gdG cc_222 ci_222 w_1847 cm_222 cs_222 cd_222 cl_222 rfl rfl))) (ok_t_l (ok_iinc dX12_write_94 rfl))) (ok_t_n (ok_t_l (ok_goto dX12_write_97 rfl)) (ok_t_l (ok_iinc dX12_write_100 rfl)))) (ok_t_n (ok_t_n (ok_t_l (ok_goto dX12_write_103 rfl)) (ok_t_l (ok_iinc dX12_write_106 rfl))) (ok_t_n (ok_t_l (ok_goto dX12_write_109 rfl)) (ok_t_l (ok_vreturn dX12_write_112))))))))
theorem dX12_writePiece_0 : decode cX12_writePiece 0 = .ok (.aload_n 0, 1) := by decide +kernel
theorem dX12_writePiece_1 : decode cX12_writePiece 1 = .ok (.iload_n 1, 1) := by decide +kernel
theorem dX12_writePiece_2 : decode cX12_writePiece 2 = .ok (.iload_n 2, 1) := by decide +kernel
theorem dX12_writePiece_3 : decode cX12_writePiece 3 = .ok (.invokevirtual 135, 3) := by decide +kernel
theorem dX12_writePiece_6 : decode cX12_writePiece 6 = .ok (.istore 4, 2) := by decide +kernel
theorem dX12_writePiece_8 : decode cX12_writePiece 8 = .ok (.iload 4, 2) := by decide +kernel
theorem dX12_writePiece_10 : decode cX12_writePiece 10 = .ok (.iconst (-1), 1) := by decide +kernel
theorem dX12_writePiece_11 : decode cX12_writePiece 11 = .ok (.if_icmp .ne 4, 3) := by decide +kernel
theorem dX12_writePiece_14 : decode cX12_writePiece 14 = .ok (.return_, 1) := by decide +kernel
theorem dX12_writePiece_15 : decode cX12_writePiece 15 = .ok (.aload_n 0, 1) := by decide +kernel
theorem dX12_writePiece_16 : decode cX12_writePiece 16 = .ok (.getfield 37, 3) := by decide +kernel
theorem dX12_writePiece_19 : decode cX12_writePiece 19 = .ok (.iload 4, 2) := by decide +kernel
theorem dX12_writePiece_21 : decode cX12_writePiece 21 = .ok (.dup2, 1) := by decide +kernel
theorem dX12_writePiece_22 : decode cX12_writePiece 22 = .ok (.iaload, 1) := by decide +kernel
theorem dX12_writePiece_23 : decode cX12_writePiece 23 = .ok (.iconst 1, 1) := by decide +kernel
theorem dX12_writePiece_24 : decode cX12_writePiece 24 = .ok (.iadd, 1) := by decide +kernel
theorem dX12_writePiece_25 : decode cX12_writePiece 25 = .ok (.iastore, 1) := by decide +kernel
theorem dX12_writePiece_26 : decode cX12_writePiece 26 = .ok (.aload_n 0, 1) := by decide +kernel
theorem dX12_writePiece_27 : decode cX12_writePiece 27 = .ok (.getfield 22, 3) := by decide +kernel
theorem dX12_writePiece_30 : decode cX12_writePiece 30 = .ok (.iload 4, 2) := by decide +kernel
theorem dX12_writePiece_32 : decode cX12_writePiece 32 = .ok (.iaload, 1) := by decide +kernel
theorem dX12_writePiece_33 : decode cX12_writePiece 33 = .ok (.iconst (-1), 1) := by decide +kernel
theorem dX12_writePiece_34 : decode cX12_writePiece 34 = .ok (.if_icmp .ne 14, 3) := by decide +kernel
theorem dX12_writePiece_37 : decode cX12_writePiece 37 = .ok (.aload_n 0, 1) := by decide +kernel
theorem dX12_writePiece_38 : decode cX12_writePiece 38 = .ok (.getfield 66, 3) := by decide +kernel
theorem dX12_writePiece_41 : decode cX12_writePiece 41 = .ok (.ifCond .eq 7, 3) := by decide +kernel
theorem dX12_writePiece_44 : decode cX12_writePiece 44 = .ok (.iconst 1, 1) := by decide +kernel
theorem dX12_writePiece_45 : decode cX12_writePiece 45 = .ok (.goto 4, 3) := by decide +kernel
theorem dX12_writePiece_48 : decode cX12_writePiece 48 = .ok (.iconst 0, 1) := by decide +kernel
theorem dX12_writePiece_49 : decode cX12_writePiece 49 = .ok (.istore 5, 2) := by decide +kernel
theorem dX12_writePiece_51 : decode cX12_writePiece 51 = .ok (.iload 5, 2) := by decide +kernel
theorem dX12_writePiece_53 : decode cX12_writePiece 53 = .ok (.ifCond .eq 16, 3) := by decide +kernel
theorem dX12_writePiece_56 : decode cX12_writePiece 56 = .ok (.aload_n 0, 1) := by decide +kernel
theorem dX12_writePiece_57 : decode cX12_writePiece 57 = .ok (.dup, 1) := by decide +kernel
theorem dX12_writePiece_58 : decode cX12_writePiece 58 = .ok (.getfield 211, 3) := by decide +kernel
theorem dX12_writePiece_61 : decode cX12_writePiece 61 = .ok (.iconst 1, 1) := by decide +kernel
theorem dX12_writePiece_62 : decode cX12_writePiece 62 = .ok (.iload 4, 2) := by decide +kernel
theorem dX12_writePiece_64 : decode cX12_writePiece 64 = .ok (.ishl, 1) := by decide +kernel
theorem dX12_writePiece_65 : decode cX12_writePiece 65 = .ok (.ior, 1) := by decide +kernel
theorem dX12_writePiece_66 : decode cX12_writePiece 66 = .ok (.putfield 211, 3) := by decide +kernel
theorem dX12_writePiece_69 : decode cX12_writePiece 69 = .ok (.iload_n 1, 1) := by decide +kernel
theorem dX12_writePiece_70 : decode cX12_writePiece 70 = .ok (.bipush 8, 2) := by decide +kernel
theorem dX12_writePiece_72 : decode cX12_writePiece 72 = .ok (.imul, 1) := by decide +kernel
theorem dX12_writePiece_73 : decode cX12_writePiece 73 = .ok (.iload_n 2, 1) := by decide +kernel
theorem dX12_writePiece_74 : decode cX12_writePiece 74 = .ok (.iadd, 1) := by decide +kernel
theorem dX12_writePiece_75 : decode cX12_writePiece 75 = .ok (.iconst 4, 1) := by decide +kernel
theorem dX12_writePiece_76 : decode cX12_writePiece 76 = .ok (.imul, 1) := by decide +kernel
theorem dX12_writePiece_77 : decode cX12_writePiece 77 = .ok (.istore 6, 2) := by decide +kernel
theorem dX12_writePiece_79 : decode cX12_writePiece 79 = .ok (.aload_n 0, 1) := by decide +kernel
theorem dX12_writePiece_80 : decode cX12_writePiece 80 = .ok (.getfield 22, 3) := by decide +kernel
theorem dX12_writePiece_83 : decode cX12_writePiece 83 = .ok (.iload 4, 2) := by decide +kernel
theorem dX12_writePiece_85 : decode cX12_writePiece 85 = .ok (.iaload, 1) := by decide +kernel
theorem dX12_writePiece_86 : decode cX12_writePiece 86 = .ok (.iconst (-1), 1) := by decide +kernel
theorem dX12_writePiece_87 : decode cX12_writePiece 87 = .ok (.if_icmp .ne 34, 3) := by decide +kernel
theorem dX12_writePiece_90 : decode cX12_writePiece 90 = .ok (.aload_n 0, 1) := by decide +kernel
theorem dX12_writePiece_91 : decode cX12_writePiece 91 = .ok (.getfield 66, 3) := by decide +kernel
theorem dX12_writePiece_94 : decode cX12_writePiece 94 = .ok (.ifCond .ne 27, 3) := by decide +kernel
theorem dX12_writePiece_97 : decode cX12_writePiece 97 = .ok (.aload_n 0, 1) := by decide +kernel
theorem dX12_writePiece_98 : decode cX12_writePiece 98 = .ok (.getfield 3, 3) := by decide +kernel
theorem dX12_writePiece_101 : decode cX12_writePiece 101 = .ok (.getfield 139, 3) := by decide +kernel
theorem dX12_writePiece_104 : decode cX12_writePiece 104 = .ok (.iload 6, 2) := by decide +kernel
theorem dX12_writePiece_106 : decode cX12_writePiece 106 = .ok (.iconst 3, 1) := by decide +kernel
theorem dX12_writePiece_107 : decode cX12_writePiece 107 = .ok (.iadd, 1) := by decide +kernel
theorem dX12_writePiece_108 : decode cX12_writePiece 108 = .ok (.iaload, 1) := by decide +kernel
theorem dX12_writePiece_109 : decode cX12_writePiece 109 = .ok (.ifCond .ne 12, 3) := by decide +kernel
theorem dX12_writePiece_112 : decode cX12_writePiece 112 = .ok (.aload_n 0, 1) := by decide +kernel
theorem dX12_writePiece_113 : decode cX12_writePiece 113 = .ok (.iconst 3, 1) := by decide +kernel
theorem dX12_writePiece_114 : decode cX12_writePiece 114 = .ok (.iload 4, 2) := by decide +kernel
theorem dX12_writePiece_116 : decode cX12_writePiece 116 = .ok (.iload_n 1, 1) := by decide +kernel
theorem dX12_writePiece_117 : decode cX12_writePiece 117 = .ok (.iload_n 2, 1) := by decide +kernel
theorem dX12_writePiece_118 : decode cX12_writePiece 118 = .ok (.invokevirtual 156, 3) := by decide +kernel
theorem dX12_writePiece_121 : decode cX12_writePiece 121 = .ok (.aload_n 0, 1) := by decide +kernel
theorem dX12_writePiece_122 : decode cX12_writePiece 122 = .ok (.iload 4, 2) := by decide +kernel
theorem dX12_writePiece_124 : decode cX12_writePiece 124 = .ok (.invokevirtual 202, 3) := by decide +kernel
theorem dX12_writePiece_127 : decode cX12_writePiece 127 = .ok (.istore 7, 2) := by decide +kernel
theorem dX12_writePiece_129 : decode cX12_writePiece 129 = .ok (.aload_n 0, 1) := by decide +kernel
theorem dX12_writePiece_130 : decode cX12_writePiece 130 = .ok (.getfield 3, 3) := by decide +kernel
theorem dX12_writePiece_133 : decode cX12_writePiece 133 = .ok (.getfield 139, 3) := by decide +kernel
theorem dX12_writePiece_136 : decode cX12_writePiece 136 = .ok (.iload 6, 2) := by decide +kernel
theorem dX12_writePiece_138 : decode cX12_writePiece 138 = .ok (.iaload, 1) := by decide +kernel
theorem dX12_writePiece_139 : decode cX12_writePiece 139 = .ok (.iconst 1, 1) := by decide +kernel
theorem dX12_writePiece_140 : decode cX12_writePiece 140 = .ok (.if_icmp .ne 58, 3) := by decide +kernel
theorem dX12_writePiece_143 : decode cX12_writePiece 143 = .ok (.aload_n 0, 1) := by decide +kernel
theorem dX12_writePiece_144 : decode cX12_writePiece 144 = .ok (.getfield 59, 3) := by decide +kernel
theorem dX12_writePiece_147 : decode cX12_writePiece 147 = .ok (.iload_n 3, 1) := by decide +kernel
theorem dX12_writePiece_148 : decode cX12_writePiece 148 = .ok (.iload 7, 2) := by decide +kernel
theorem dX12_writePiece_150 : decode cX12_writePiece 150 = .ok (.aload_n 0, 1) := by decide +kernel
theorem dX12_writePiece_151 : decode cX12_writePiece 151 = .ok (.getfield 3, 3) := by decide +kernel
theorem dX12_writePiece_154 : decode cX12_writePiece 154 = .ok (.getfield 139, 3) := by decide +kernel
theorem dX12_writePiece_157 : decode cX12_writePiece 157 = .ok (.iload 6, 2) := by decide +kernel
theorem dX12_writePiece_159 : decode cX12_writePiece 159 = .ok (.iconst 2, 1) := by decide +kernel
theorem dX12_writePiece_160 : decode cX12_writePiece 160 = .ok (.iadd, 1) := by decide +kernel
theorem dX12_writePiece_161 : decode cX12_writePiece 161 = .ok (.iaload, 1) := by decide +kernel
theorem dX12_writePiece_162 : decode cX12_writePiece 162 = .ok (.iadd, 1) := by decide +kernel
theorem dX12_writePiece_163 : decode cX12_writePiece 163 = .ok (.iastore, 1) := by decide +kernel
theorem dX12_writePiece_164 : decode cX12_writePiece 164 = .ok (.iload 5, 2) := by decide +kernel
theorem dX12_writePiece_166 : decode cX12_writePiece 166 = .ok (.ifCond .ne 88, 3) := by decide +kernel
theorem dX12_writePiece_169 : decode cX12_writePiece 169 = .ok (.aload_n 0, 1) := by decide +kernel
theorem dX12_writePiece_170 : decode cX12_writePiece 170 = .ok (.getfield 59, 3) := by decide +kernel
theorem dX12_writePiece_173 : decode cX12_writePiece 173 = .ok (.iload_n 3, 1) := by decide +kernel
theorem dX12_writePiece_174 : decode cX12_writePiece 174 = .ok (.iaload, 1) := by decide +kernel
theorem dX12_writePiece_175 : decode cX12_writePiece 175 = .ok (.iconst 0, 1) := by decide +kernel
theorem dX12_writePiece_176 : decode cX12_writePiece 176 = .ok (.aload_n 0, 1) := by decide +kernel
theorem dX12_writePiece_177 : decode cX12_writePiece 177 = .ok (.getfield 73, 3) := by decide +kernel
theorem dX12_writePiece_180 : decode cX12_writePiece 180 = .ok (.invokestatic 214, 3) := by decide +kernel
theorem dX12_writePiece_183 : decode cX12_writePiece 183 = .ok (.ifCond .ne 71, 3) := by decide +kernel
theorem dX12_writePiece_186 : decode cX12_writePiece 186 = .ok (.aload_n 0, 1) := by decide +kernel
theorem dX12_writePiece_187 : decode cX12_writePiece 187 = .ok (.iconst 4, 1) := by decide +kernel
theorem dX12_writePiece_188 : decode cX12_writePiece 188 = .ok (.iload 4, 2) := by decide +kernel
theorem dX12_writePiece_190 : decode cX12_writePiece 190 = .ok (.iload_n 1, 1) := by decide +kernel
theorem dX12_writePiece_191 : decode cX12_writePiece 191 = .ok (.iload_n 2, 1) := by decide +kernel
theorem dX12_writePiece_192 : decode cX12_writePiece 192 = .ok (.invokevirtual 156, 3) := by decide +kernel
theorem dX12_writePiece_195 : decode cX12_writePiece 195 = .ok (.goto 59, 3) := by decide +kernel
theorem dX12_writePiece_198 : decode cX12_writePiece 198 = .ok (.aload_n 0, 1) := by decide +kernel
theorem dX12_writePiece_199 : decode cX12_writePiece 199 = .ok (.getfield 53, 3) := by decide +kernel
theorem dX12_writePiece_202 : decode cX12_writePiece 202 = .ok (.iload_n 1, 1) := by decide +kernel
theorem dX12_writePiece_203 : decode cX12_writePiece 203 = .ok (.bipush 8, 2) := by decide +kernel
theorem dX12_writePiece_205 : decode cX12_writePiece 205 = .ok (.imul, 1) := by decide +kernel
theorem dX12_writePiece_206 : decode cX12_writePiece 206 = .ok (.iload_n 2, 1) := by decide +kernel
theorem dX12_writePiece_207 : decode cX12_writePiece 207 = .ok (.iadd, 1) := by decide +kernel
theorem dX12_writePiece_208 : decode cX12_writePiece 208 = .ok (.baload, 1) := by decide +kernel
theorem dX12_writePiece_209 : decode cX12_writePiece 209 = .ok (.ifCond .eq 24, 3) := by decide +kernel
theorem dX12_writePiece_212 : decode cX12_writePiece 212 = .ok (.aload_n 0, 1) := by decide +kernel
theorem dX12_writePiece_213 : decode cX12_writePiece 213 = .ok (.getfield 59, 3) := by decide +kernel
theorem dX12_writePiece_216 : decode cX12_writePiece 216 = .ok (.iload_n 3, 1) := by decide +kernel
theorem dX12_writePiece_217 : decode cX12_writePiece 217 = .ok (.bipush (-2), 2) := by decide +kernel
theorem dX12_writePiece_219 : decode cX12_writePiece 219 = .ok (.iastore, 1) := by decide +kernel
theorem dX12_writePiece_220 : decode cX12_writePiece 220 = .ok (.aload_n 0, 1) := by decide +kernel
theorem dX12_writePiece_221 : decode cX12_writePiece 221 = .ok (.getfield 59, 3) := by decide +kernel
theorem dX12_writePiece_224 : decode cX12_writePiece 224 = .ok (.iload_n 3, 1) := by decide +kernel
theorem dX12_writePiece_225 : decode cX12_writePiece 225 = .ok (.iconst 1, 1) := by decide +kernel
theorem dX12_writePiece_226 : decode cX12_writePiece 226 = .ok (.iadd, 1) := by decide +kernel
theorem dX12_writePiece_227 : decode cX12_writePiece 227 = .ok (.iload 7, 2) := by decide +kernel
theorem dX12_writePiece_229 : decode cX12_writePiece 229 = .ok (.iastore, 1) := by decide +kernel
theorem dX12_writePiece_230 : decode cX12_writePiece 230 = .ok (.goto 24, 3) := by decide +kernel
theorem dX12_writePiece_233 : decode cX12_writePiece 233 = .ok (.aload_n 0, 1) := by decide +kernel
theorem dX12_writePiece_234 : decode cX12_writePiece 234 = .ok (.getfield 59, 3) := by decide +kernel
theorem dX12_writePiece_237 : decode cX12_writePiece 237 = .ok (.iload_n 3, 1) := by decide +kernel
theorem dX12_writePiece_238 : decode cX12_writePiece 238 = .ok (.iconst (-1), 1) := by decide +kernel
theorem dX12_writePiece_239 : decode cX12_writePiece 239 = .ok (.iastore, 1) := by decide +kernel
theorem dX12_writePiece_240 : decode cX12_writePiece 240 = .ok (.aload_n 0, 1) := by decide +kernel
theorem dX12_writePiece_241 : decode cX12_writePiece 241 = .ok (.getfield 59, 3) := by decide +kernel
theorem dX12_writePiece_244 : decode cX12_writePiece 244 = .ok (.iload_n 3, 1) := by decide +kernel
theorem dX12_writePiece_245 : decode cX12_writePiece 245 = .ok (.iconst 1, 1) := by decide +kernel
theorem dX12_writePiece_246 : decode cX12_writePiece 246 = .ok (.iadd, 1) := by decide +kernel
theorem dX12_writePiece_247 : decode cX12_writePiece 247 = .ok (.iload 7, 2) := by decide +kernel
theorem dX12_writePiece_249 : decode cX12_writePiece 249 = .ok (.iload_n 3, 1) := by decide +kernel
theorem dX12_writePiece_250 : decode cX12_writePiece 250 = .ok (.isub, 1) := by decide +kernel
theorem dX12_writePiece_251 : decode cX12_writePiece 251 = .ok (.iconst 2, 1) := by decide +kernel
theorem dX12_writePiece_252 : decode cX12_writePiece 252 = .ok (.isub, 1) := by decide +kernel
theorem dX12_writePiece_253 : decode cX12_writePiece 253 = .ok (.iastore, 1) := by decide +kernel
theorem dX12_writePiece_254 : decode cX12_writePiece 254 = .ok (.return_, 1) := by decide +kernel
def g_X12_writePiece : Nat → EA := (t_n 130 (t_n 65 (t_n 30 (t_n 15 (t_n 6 (t_n 2 (t_n 1 (t_l 0 (a_aload 1 0)) (t_l 1 (a_iload 1 1))) (t_n 3 (t_l 2 (a_iload 1 2)) (t_l 3 (a_inv true 208 3 (some 12))))) (t_n 10 (t_n 8 (t_l 6 (a_istore 8 2 4)) (t_l 8 (a_iload 2 4))) (t_n 11 (t_l 10 (a_push 1 (.int (-1)))) (t_n 14 (t_l 11 (a_ic 15 (fun x y => !decide (x = y)))) (t_l 14 a_vret))))) (t_n 23 (t_n 19 (t_n 16 (t_l 15 (a_aload 1 0)) (t_l 16 (a_getf 12 12))) (t_n 21 (t_l 19 (a_iload 2 4)) (t_n 22 (t_l 21 a_dup2) (t_l 22 (a_ild 0))))) (t_n 25 (t_n 24 (t_l 23 (a_push 1 (.int 1))) (t_l 24 (a_ii 1 (fun x y => x + y)))) (t_n 26 (t_l 25 (a_ist 0)) (t_n 27 (t_l 26 (a_aload 1 0)) (t_l 27 (a_getf 12 7))))))) (t_n 48 (t_n 37 (t_n 33 (t_n 32 (t_l 30 (a_iload 2 4)) (t_l 32 (a_ild 0))) (t_n 34 (t_l 33 (a_push 1 (.int (-1)))) (t_l 34 (a_ic 48 (fun x y => !decide (x = y)))))) (t_n 41 (t_n 38 (t_l 37 (a_aload 1 0)) (t_l 38 (a_getf 12 3))) (t_n 44 (t_l 41 (a_if 48 (fun x => decide (x = 0)))) (t_n 45 (t_l 44 (a_push 1 (.int 1))) (t_l 45 (a_goto 49)))))) (t_n 57 (t_n 51 (t_n 49 (t_l 48 (a_push 1 (.int 0))) (t_l 49 (a_istore 8 2 5))) (t_n 53 (t_l 51 (a_iload 2 5)) (t_n 56 (t_l 53 (a_if 69 (fun x => decide (x = 0)))) (t_l 56 (a_aload 1 0))))) (t_n 61 (t_n 58 (t_l 57 a_dup) (t_l 58 (a_getf 12 18))) (t_n 62 (t_l 61 (a_push 1 (.int 1))) (t_n 64 (t_l 62 (a_iload 2 4)) (t_l 64 (a_ii 1 (fun x y => x <<< (y &&& 31)))))))))) (t_n 97 (t_n 77 (t_n 72 (t_n 69 (t_n 66 (t_l 65 (a_ii 1 (fun x y => x ||| y))) (t_l 66 (a_putf 0 12 18))) (t_n 70 (t_l 69 (a_iload 1 1)) (t_l 70 (a_push 2 (.int 8))))) (t_n 74 (t_n 73 (t_l 72 (a_ii 1 (fun x y => x * y))) (t_l 73 (a_iload 1 2))) (t_n 75 (t_l 74 (a_ii 1 (fun x y => x + y))) (t_n 76 (t_l 75 (a_push 1 (.int 4))) (t_l 76 (a_ii 1 (fun x y => x * y))))))) (t_n 86 (t_n 80 (t_n 79 (t_l 77 (a_istore 8 2 6)) (t_l 79 (a_aload 1 0))) (t_n 83 (t_l 80 (a_getf 12 7)) (t_n 85 (t_l 83 (a_iload 2 4)) (t_l 85 (a_ild 0))))) (t_n 90 (t_n 87 (t_l 86 (a_push 1 (.int (-1)))) (t_l 87 (a_ic 121 (fun x y => !decide (x = y))))) (t_n 91 (t_l 90 (a_aload 1 0)) (t_n 94 (t_l 91 (a_getf 12 3)) (t_l 94 (a_if 121 (fun x => !decide (x = 0))))))))) (t_n 113 (t_n 106 (t_n 101 (t_n 98 (t_l 97 (a_aload 1 0)) (t_l 98 (a_getf 12 24))) (t_n 104 (t_l 101 (a_getf 13 8)) (t_l 104 (a_iload 2 6)))) (t_n 108 (t_n 107 (t_l 106 (a_push 1 (.int 3))) (t_l 107 (a_ii 1 (fun x y => x + y)))) (t_n 109 (t_l 108 (a_ild 0)) (t_n 112 (t_l 109 (a_if 121 (fun x => !decide (x = 0)))) (t_l 112 (a_aload 1 0)))))) (t_n 121 (t_n 116 (t_n 114 (t_l 113 (a_push 1 (.int 3))) (t_l 114 (a_iload 2 4))) (t_n 117 (t_l 116 (a_iload 1 1)) (t_n 118 (t_l 117 (a_iload 1 2)) (t_l 118 (a_inv true 211 5 (some 12)))))) (t_n 124 (t_n 122 (t_l 121 (a_aload 1 0)) (t_l 122 (a_iload 2 4))) (t_n 127 (t_l 124 (a_inv true 219 2 (some 12))) (t_n 129 (t_l 127 (a_istore 8 2 7)) (t_l 129 (a_aload 1 0))))))))) (t_n 199 (t_n 164 (t_n 148 (t_n 139 (t_n 136 (t_n 133 (t_l 130 (a_getf 12 24)) (t_l 133 (a_getf 13 8))) (t_n 138 (t_l 136 (a_iload 2 6)) (t_l 138 (a_ild 0)))) (t_n 143 (t_n 140 (t_l 139 (a_push 1 (.int 1))) (t_l 140 (a_ic 198 (fun x y => !decide (x = y))))) (t_n 144 (t_l 143 (a_aload 1 0)) (t_n 147 (t_l 144 (a_getf 12 23)) (t_l 147 (a_iload 1 3)))))) (t_n 159 (t_n 151 (t_n 150 (t_l 148 (a_iload 2 7)) (t_l 150 (a_aload 1 0))) (t_n 154 (t_l 151 (a_getf 12 24)) (t_n 157 (t_l 154 (a_getf 13 8)) (t_l 157 (a_iload 2 6))))) (t_n 161 (t_n 160 (t_l 159 (a_push 1 (.int 2))) (t_l 160 (a_ii 1 (fun x y => x + y)))) (t_n 162 (t_l 161 (a_ild 0)) (t_n 163 (t_l 162 (a_ii 1 (fun x y => x + y))) (t_l 163 (a_ist 0))))))) (t_n 180 (t_n 173 (t_n 169 (t_n 166 (t_l 164 (a_iload 2 5)) (t_l 166 (a_if 254 (fun x => !decide (x = 0))))) (t_n 170 (t_l 169 (a_aload 1 0)) (t_l 170 (a_getf 12 23)))) (t_n 175 (t_n 174 (t_l 173 (a_iload 1 3)) (t_l 174 (a_ild 0))) (t_n 176 (t_l 175 (a_push 1 (.int 0))) (t_n 177 (t_l 176 (a_aload 1 0)) (t_l 177 (a_getf 12 2)))))) (t_n 190 (t_n 186 (t_n 183 (t_l 180 (a_inv false 230 3 none)) (t_l 183 (a_if 254 (fun x => !decide (x = 0))))) (t_n 187 (t_l 186 (a_aload 1 0)) (t_n 188 (t_l 187 (a_push 1 (.int 4))) (t_l 188 (a_iload 2 4))))) (t_n 192 (t_n 191 (t_l 190 (a_iload 1 1)) (t_l 191 (a_iload 1 2))) (t_n 195 (t_l 192 (a_inv true 211 5 (some 12))) (t_n 198 (t_l 195 (a_goto 254)) (t_l 198 (a_aload 1 0)))))))) (t_n 229 (t_n 213 (t_n 206 (t_n 203 (t_n 202 (t_l 199 (a_getf 12 17)) (t_l 202 (a_iload 1 1))) (t_n 205 (t_l 203 (a_push 2 (.int 8))) (t_l 205 (a_ii 1 (fun x y => x * y))))) (t_n 208 (t_n 207 (t_l 206 (a_iload 1 2)) (t_l 207 (a_ii 1 (fun x y => x + y)))) (t_n 209 (t_l 208 (a_ild 1)) (t_n 212 (t_l 209 (a_if 233 (fun x => decide (x = 0)))) (t_l 212 (a_aload 1 0)))))) (t_n 221 (t_n 217 (t_n 216 (t_l 213 (a_getf 12 23)) (t_l 216 (a_iload 1 3))) (t_n 219 (t_l 217 (a_push 2 (.int (-2)))) (t_n 220 (t_l 219 (a_ist 0)) (t_l 220 (a_aload 1 0))))) (t_n 225 (t_n 224 (t_l 221 (a_getf 12 23)) (t_l 224 (a_iload 1 3))) (t_n 226 (t_l 225 (a_push 1 (.int 1))) (t_n 227 (t_l 226 (a_ii 1 (fun x y => x + y))) (t_l 227 (a_iload 2 7))))))) (t_n 244 (t_n 237 (t_n 233 (t_n 230 (t_l 229 (a_ist 0)) (t_l 230 (a_goto 254))) (t_n 234 (t_l 233 (a_aload 1 0)) (t_l 234 (a_getf 12 23)))) (t_n 239 (t_n 238 (t_l 237 (a_iload 1 3)) (t_l 238 (a_push 1 (.int (-1))))) (t_n 240 (t_l 239 (a_ist 0)) (t_n 241 (t_l 240 (a_aload 1 0)) (t_l 241 (a_getf 12 23)))))) (t_n 250 (t_n 246 (t_n 245 (t_l 244 (a_iload 1 3)) (t_l 245 (a_push 1 (.int 1)))) (t_n 247 (t_l 246 (a_ii 1 (fun x y => x + y))) (t_n 249 (t_l 247 (a_iload 2 7)) (t_l 249 (a_iload 1 3))))) (t_n 252 (t_n 251 (t_l 250 (a_ii 1 (fun x y => x - y))) (t_l 251 (a_push 1 (.int 2)))) (t_n 253 (t_l 252 (a_ii 1 (fun x y => x - y))) (t_n 254 (t_l 253 (a_ist 0)) (t_l 254 a_vret)))))))))
set_option maxRecDepth 100000 in
theorem k_X12_writePiece (d : Nat) : ∀ pc, ev_Ok cX12_writePiece 8 [] RX12 lw_g lw_n lw_q vwCl false (ev_CO mt lw_g lw_n lw_q vwCl d) pc (g_X12_writePiece pc) := (ok_t_n (ok_t_n (ok_t_n (ok_t_n (ok_t_n (ok_t_n (ok_t_n (ok_t_l (ok_aload_n dX12_writePiece_0 rfl)) (ok_t_l (ok_iload_n dX12_writePiece_1 rfl))) (ok_t_n (ok_t_l (ok_iload_n dX12_writePiece_2 rfl)) (ok_t_l (ok_inv (run_V (y := 208) (n := 2) (ci := 12) dX12_writePiece_3 cz_208 gdG cc_208 ci_208 w_1787 cm_208 cs_208 cd_208 cl_208 rfl rfl))))) (ok_t_n (ok_t_n (ok_t_l (ok_istore dX12_writePiece_6)) (ok_t_l (ok_iload dX12_writePiece_8))) (ok_t_n (ok_t_l (ok_iconst dX12_writePiece_10 rfl)) (ok_t_n (ok_t_l (ok_icmp_ne dX12_writePiece_11 rfl)) (ok_t_l (ok_vreturn dX12_writePiece_14)))))) (ok_t_n (ok_t_n (ok_t_n (ok_t_l (ok_aload_n dX12_writePiece_15 rfl)) (ok_t_l (ok_getfield dX12_writePiece_16 (ci := 12) (kf := 12) rfl inGX12 (by decide) w_1870))) (ok_t_n (ok_t_l (ok_iload dX12_writePiece_19)) (ok_t_n (ok_t_l (ok_dup2 dX12_writePiece_21)) (ok_t_l (ok_iaload dX12_writePiece_22))))) (ok_t_n (ok_t_n (ok_t_l (ok_iconst dX12_writePiece_23 rfl)) (ok_t_l (ok_iadd dX12_writePiece_24))) (ok_t_n (ok_t_l (ok_iastore dX12_writePiece_25)) (ok_t_n (ok_t_l (ok_aload_n dX12_writePiece_26 rfl)) (ok_t_l (ok_getfield dX12_writePiece_27 (ci := 12) (kf := 7) rfl inGX12 (by decide) w_1863))))))) (ok_t_n (ok_t_n (ok_t_n (ok_t_n (ok_t_l (ok_iload dX12_writePiece_30)) (ok_t_l (ok_iaload dX12_writePiece_32))) (ok_t_n (ok_t_l (ok_iconst dX12_writePiece_33 rfl)) (ok_t_l (ok_icmp_ne dX12_writePiece_34 rfl)))) (ok_t_n (ok_t_n (ok_t_l (ok_aload_n dX12_writePiece_37 rfl)) (ok_t_l (ok_getfield dX12_writePiece_38 (ci := 12) (kf := 3) rfl inGX12 (by decide) w_1856))) (ok_t_n (ok_t_l (ok_if_eq dX12_writePiece_41 rfl)) (ok_t_n (ok_t_l (ok_iconst dX12_writePiece_44 rfl)) (ok_t_l (ok_goto dX12_writePiece_45 rfl)))))) (ok_t_n (ok_t_n (ok_t_n (ok_t_l (ok_iconst dX12_writePiece_48 rfl)) (ok_t_l (ok_istore dX12_writePiece_49))) (ok_t_n (ok_t_l (ok_iload dX12_writePiece_51)) (ok_t_n (ok_t_l (ok_if_eq dX12_writePiece_53 rfl)) (ok_t_l (ok_aload_n dX12_writePiece_56 rfl))))) (ok_t_n (ok_t_n (ok_t_l (ok_dup dX12_writePiece_57)) (ok_t_l (ok_getfield dX12_writePiece_58 (ci := 12) (kf := 18) rfl inGX12 (by decide) w_1879))) (ok_t_n (ok_t_l (ok_iconst dX12_writePiece_61 rfl)) (ok_t_n (ok_t_l (ok_iload dX12_writePiece_62)) (ok_t_l (ok_ishl dX12_writePiece_64)))))))) (ok_t_n (ok_t_n (ok_t_n (ok_t_n (ok_t_n (ok_t_l (ok_ior dX12_writePiece_65)) (ok_t_l (ok_putfield dX12_writePiece_66 (ci := 12) (kf := 18) rfl inGX12 (by decide) tyX12_ok nmX12 rfl w_1879 rfl))) (ok_t_n (ok_t_l (ok_iload_n dX12_writePiece_69 rfl)) (ok_t_l (ok_bipush dX12_writePiece_70 rfl)))) (ok_t_n (ok_t_n (ok_t_l (ok_imul dX12_writePiece_72)) (ok_t_l (ok_iload_n dX12_writePiece_73 rfl))) (ok_t_n (ok_t_l (ok_iadd dX12_writePiece_74)) (ok_t_n (ok_t_l (ok_iconst dX12_writePiece_75 rfl)) (ok_t_l (ok_imul dX12_writePiece_76)))))) (ok_t_n (ok_t_n (ok_t_n (ok_t_l (ok_istore dX12_writePiece_77)) (ok_t_l (ok_aload_n dX12_writePiece_79 rfl))) (ok_t_n (ok_t_l (ok_getfield dX12_writePiece_80 (ci := 12) (kf := 7) rfl inGX12 (by decide) w_1863)) (ok_t_n (ok_t_l (ok_iload dX12_writePiece_83)) (ok_t_l (ok_iaload dX12_writePiece_85))))) (ok_t_n (ok_t_n (ok_t_l (ok_iconst dX12_writePiece_86 rfl)) (ok_t_l (ok_icmp_ne dX12_writePiece_87 rfl))) (ok_t_n (ok_t_l (ok_aload_n dX12_writePiece_90 rfl)) (ok_t_n (ok_t_l (ok_getfield dX12_writePiece_91 (ci := 12) (kf := 3) rfl inGX12 (by decide) w_1856)) (ok_t_l (ok_if_ne dX12_writePiece_94 rfl))))))) (ok_t_n (ok_t_n (ok_t_n (ok_t_n (ok_t_l (ok_aload_n dX12_writePiece_97 rfl)) (ok_t_l (ok_getfield dX12_writePiece_98 (ci := 12) (kf := 24) rfl inGX12 (by decide) w_1891))) (ok_t_n (ok_t_l (ok_getfieldN dX12_writePiece_101 (ci := 13) (kf := 8) rfl inGX13 (by decide) (nst_37))) (ok_t_l (ok_iload dX12_writePiece_104)))) (ok_t_n (ok_t_n (ok_t_l (ok_iconst dX12_writePiece_106 rfl)) (ok_t_l (ok_iadd dX12_writePiece_107))) (ok_t_n (ok_t_l (ok_iaload dX12_writePiece_108)) (ok_t_n (ok_t_l (ok_if_ne dX12_writePiece_109 rfl)) (ok_t_l (ok_aload_n dX12_writePiece_112 rfl)))))) (ok_t_n (ok_t_n (ok_t_n (ok_t_l (ok_iconst dX12_writePiece_113 rfl)) (ok_t_l (ok_iload dX12_writePiece_114))) (ok_t_n (ok_t_l (ok_iload_n dX12_writePiece_116 rfl)) (ok_t_n (ok_t_l (ok_iload_n dX12_writePiece_117 rfl)) (ok_t_l (ok_inv (run_V (y := 211) (n := 4) (ci := 12) dX12_writePiece_118 cz_211 gdG cc_211 ci_211 w_1800 cm_211 cs_211 cd_211 cl_211 rfl rfl)))))) (ok_t_n (ok_t_n (ok_t_l (ok_aload_n dX12_writePiece_121 rfl)) (ok_t_l (ok_iload dX12_writePiece_122))) (ok_t_n (ok_t_l (ok_inv (run_V (y := 219) (n := 1) (ci := 12) dX12_writePiece_124 cz_219 gdG cc_219 ci_219 w_1838 cm_219 cs_219 cd_219 cl_219 rfl rfl))) (ok_t_n (ok_t_l (ok_istore dX12_writePiece_127)) (ok_t_l (ok_aload_n dX12_writePiece_129 rfl))))))))) (ok_t_n (ok_t_n (ok_t_n (ok_t_n (ok_t_n (ok_t_n (ok_t_l (ok_getfield dX12_writePiece_130 (ci := 12) (kf := 24) rfl inGX12 (by decide) w_1891)) (ok_t_l (ok_getfieldN dX12_writePiece_133 (ci := 13) (kf := 8) rfl inGX13 (by decide) (nst_37)))) (ok_t_n (ok_t_l (ok_iload dX12_writePiece_136)) (ok_t_l (ok_iaload dX12_writePiece_138)))) (ok_t_n (ok_t_n (ok_t_l (ok_iconst dX12_writePiece_139 rfl)) (ok_t_l (ok_icmp_ne dX12_writePiece_140 rfl))) (ok_t_n (ok_t_l (ok_aload_n dX12_writePiece_143 rfl)) (ok_t_n (ok_t_l (ok_getfield dX12_writePiece_144 (ci := 12) (kf := 23) rfl inGX12 (by decide) w_1889)) (ok_t_l (ok_iload_n dX12_writePiece_147 rfl)))))) (ok_t_n (ok_t_n (ok_t_n (ok_t_l (ok_iload dX12_writePiece_148)) (ok_t_l (ok_aload_n dX12_writePiece_150 rfl))) (ok_t_n (ok_t_l (ok_getfield dX12_writePiece_151 (ci := 12) (kf := 24) rfl inGX12 (by decide) w_1891)) (ok_t_n (ok_t_l (ok_getfieldN dX12_writePiece_154 (ci := 13) (kf := 8) rfl inGX13 (by decide) (nst_37))) (ok_t_l (ok_iload dX12_writePiece_157))))) (ok_t_n (ok_t_n (ok_t_l (ok_iconst dX12_writePiece_159 rfl)) (ok_t_l (ok_iadd dX12_writePiece_160))) (ok_t_n (ok_t_l (ok_iaload dX12_writePiece_161)) (ok_t_n (ok_t_l (ok_iadd dX12_writePiece_162)) (ok_t_l (ok_iastore dX12_writePiece_163))))))) (ok_t_n (ok_t_n (ok_t_n (ok_t_n (ok_t_l (ok_iload dX12_writePiece_164)) (ok_t_l (ok_if_ne dX12_writePiece_166 rfl))) (ok_t_n (ok_t_l (ok_aload_n dX12_writePiece_169 rfl)) (ok_t_l (ok_getfield dX12_writePiece_170 (ci := 12) (kf := 23) rfl inGX12 (by decide) w_1889)))) (ok_t_n (ok_t_n (ok_t_l (ok_iload_n dX12_writePiece_173 rfl)) (ok_t_l (ok_iaload dX12_writePiece_174))) (ok_t_n (ok_t_l (ok_iconst dX12_writePiece_175 rfl)) (ok_t_n (ok_t_l (ok_aload_n dX12_writePiece_176 rfl)) (ok_t_l (ok_getfield dX12_writePiece_177 (ci := 12) (kf := 2) rfl inGX12 (by decide) w_1855)))))) (ok_t_n (ok_t_n (ok_t_n (ok_t_l (ok_inv (run_SN (y := 230) (n := 3) dX12_writePiece_180 cz_230 gdG cc_230 ci_230 nst_45 cm_230 cd_230 cl_230))) (ok_t_l (ok_if_ne dX12_writePiece_183 rfl))) (ok_t_n (ok_t_l (ok_aload_n dX12_writePiece_186 rfl)) (ok_t_n (ok_t_l (ok_iconst dX12_writePiece_187 rfl)) (ok_t_l (ok_iload dX12_writePiece_188))))) (ok_t_n (ok_t_n (ok_t_l (ok_iload_n dX12_writePiece_190 rfl)) (ok_t_l (ok_iload_n dX12_writePiece_191 rfl))) (ok_t_n (ok_t_l (ok_inv (run_V (y := 211) (n := 4) (ci := 12) dX12_writePiece_192 cz_211 gdG cc_211 ci_211 w_1800 cm_211 cs_211 cd_211 cl_211 rfl rfl))) (ok_t_n (ok_t_l (ok_goto dX12_writePiece_195 rfl)) (ok_t_l (ok_aload_n dX12_writePiece_198 rfl)))))))) (ok_t_n (ok_t_n (ok_t_n (ok_t_n (ok_t_n (ok_t_l (ok_getfield dX12_writePiece_199 (ci := 12) (kf := 17) rfl inGX12 (by decide) w_1878)) (ok_t_l (ok_iload_n dX12_writePiece_202 rfl))) (ok_t_n (ok_t_l (ok_bipush dX12_writePiece_203 rfl)) (ok_t_l (ok_imul dX12_writePiece_205)))) (ok_t_n (ok_t_n (ok_t_l (ok_iload_n dX12_writePiece_206 rfl)) (ok_t_l (ok_iadd dX12_writePiece_207))) (ok_t_n (ok_t_l (ok_zaload dX12_writePiece_208)) (ok_t_n (ok_t_l (ok_if_eq dX12_writePiece_209 rfl)) (ok_t_l (ok_aload_n dX12_writePiece_212 rfl)))))) (ok_t_n (ok_t_n (ok_t_n (ok_t_l (ok_getfield dX12_writePiece_213 (ci := 12) (kf := 23) rfl inGX12 (by decide) w_1889)) (ok_t_l (ok_iload_n dX12_writePiece_216 rfl))) (ok_t_n (ok_t_l (ok_bipush dX12_writePiece_217 rfl)) (ok_t_n (ok_t_l (ok_iastore dX12_writePiece_219)) (ok_t_l (ok_aload_n dX12_writePiece_220 rfl))))) (ok_t_n (ok_t_n (ok_t_l (ok_getfield dX12_writePiece_221 (ci := 12) (kf := 23) rfl inGX12 (by decide) w_1889)) (ok_t_l (ok_iload_n dX12_writePiece_224 rfl))) (ok_t_n (ok_t_l (ok_iconst dX12_writePiece_225 rfl)) (ok_t_n (ok_t_l (ok_iadd dX12_writePiece_226)) (ok_t_l (ok_iload dX12_writePiece_227))))))) (ok_t_n (ok_t_n (ok_t_n (ok_t_n (ok_t_l (ok_iastore dX12_writePiece_229)) (ok_t_l (ok_goto dX12_writePiece_230 rfl))) (ok_t_n (ok_t_l (ok_aload_n dX12_writePiece_233 rfl)) (ok_t_l (ok_getfield dX12_writePiece_234 (ci := 12) (kf := 23) rfl inGX12 (by decide) w_1889)))) (ok_t_n (ok_t_n (ok_t_l (ok_iload_n dX12_writePiece_237 rfl)) (ok_t_l (ok_iconst dX12_writePiece_238 rfl))) (ok_t_n (ok_t_l (ok_iastore dX12_writePiece_239)) (ok_t_n (ok_t_l (ok_aload_n dX12_writePiece_240 rfl)) (ok_t_l (ok_getfield dX12_writePiece_241 (ci := 12) (kf := 23) rfl inGX12 (by decide) w_1889)))))) (ok_t_n (ok_t_n (ok_t_n (ok_t_l (ok_iload_n dX12_writePiece_244 rfl)) (ok_t_l (ok_iconst dX12_writePiece_245 rfl))) (ok_t_n (ok_t_l (ok_iadd dX12_writePiece_246)) (ok_t_n (ok_t_l (ok_iload dX12_writePiece_247)) (ok_t_l (ok_iload_n dX12_writePiece_249 rfl))))) (ok_t_n (ok_t_n (ok_t_l (ok_isub dX12_writePiece_250)) (ok_t_l (ok_iconst dX12_writePiece_251 rfl))) (ok_t_n (ok_t_l (ok_isub dX12_writePiece_252)) (ok_t_n (ok_t_l (ok_iastore dX12_writePiece_253)) (ok_t_l (ok_vreturn dX12_writePiece_254))))))))))
theorem dX12_longOf_0 : decode cX12_longOf 0 = .ok (.iconst 0, 1) := by decide +kernel
theorem dX12_longOf_1 : decode cX12_longOf 1 = .ok (.istore_n 2, 1) := by decide +kernel
theorem dX12_longOf_2 : decode cX12_longOf 2 = .ok (.iconst 0, 1) := by decide +kernel
theorem dX12_longOf_3 : decode cX12_longOf 3 = .ok (.istore_n 3, 1) := by decide +kernel
theorem dX12_longOf_4 : decode cX12_longOf 4 = .ok (.iload_n 3, 1) := by decide +kernel
theorem dX12_longOf_5 : decode cX12_longOf 5 = .ok (.aload_n 0, 1) := by decide +kernel
theorem dX12_longOf_6 : decode cX12_longOf 6 = .ok (.getfield 3, 3) := by decide +kernel
theorem dX12_longOf_9 : decode cX12_longOf 9 = .ok (.getfield 132, 3) := by decide +kernel
theorem dX12_longOf_12 : decode cX12_longOf 12 = .ok (.iload_n 1, 1) := by decide +kernel
theorem dX12_longOf_13 : decode cX12_longOf 13 = .ok (.iaload, 1) := by decide +kernel
theorem dX12_longOf_14 : decode cX12_longOf 14 = .ok (.if_icmp .ge 40, 3) := by decide +kernel
theorem dX12_longOf_17 : decode cX12_longOf 17 = .ok (.aload_n 0, 1) := by decide +kernel
theorem dX12_longOf_18 : decode cX12_longOf 18 = .ok (.getfield 44, 3) := by decide +kernel
theorem dX12_longOf_21 : decode cX12_longOf 21 = .ok (.iload_n 1, 1) := by decide +kernel
theorem dX12_longOf_22 : decode cX12_longOf 22 = .ok (.baload, 1) := by decide +kernel
theorem dX12_longOf_23 : decode cX12_longOf 23 = .ok (.ifCond .eq 31, 3) := by decide +kernel
theorem dX12_longOf_26 : decode cX12_longOf 26 = .ok (.iload_n 2, 1) := by decide +kernel
theorem dX12_longOf_27 : decode cX12_longOf 27 = .ok (.aload_n 0, 1) := by decide +kernel
theorem dX12_longOf_28 : decode cX12_longOf 28 = .ok (.getfield 53, 3) := by decide +kernel
theorem dX12_longOf_31 : decode cX12_longOf 31 = .ok (.iload_n 1, 1) := by decide +kernel
theorem dX12_longOf_32 : decode cX12_longOf 32 = .ok (.bipush 8, 2) := by decide +kernel
theorem dX12_longOf_34 : decode cX12_longOf 34 = .ok (.imul, 1) := by decide +kernel
theorem dX12_longOf_35 : decode cX12_longOf 35 = .ok (.iload_n 3, 1) := by decide +kernel
theorem dX12_longOf_36 : decode cX12_longOf 36 = .ok (.iadd, 1) := by decide +kernel
theorem dX12_longOf_37 : decode cX12_longOf 37 = .ok (.baload, 1) := by decide +kernel
theorem dX12_longOf_38 : decode cX12_longOf 38 = .ok (.ifCond .eq 7, 3) := by decide +kernel
theorem dX12_longOf_41 : decode cX12_longOf 41 = .ok (.iconst 1, 1) := by decide +kernel
theorem dX12_longOf_42 : decode cX12_longOf 42 = .ok (.goto 4, 3) := by decide +kernel
theorem dX12_longOf_45 : decode cX12_longOf 45 = .ok (.iconst 0, 1) := by decide +kernel
theorem dX12_longOf_46 : decode cX12_longOf 46 = .ok (.iadd, 1) := by decide +kernel
theorem dX12_longOf_47 : decode cX12_longOf 47 = .ok (.istore_n 2, 1) := by decide +kernel
theorem dX12_longOf_48 : decode cX12_longOf 48 = .ok (.iinc 3 1, 3) := by decide +kernel
theorem dX12_longOf_51 : decode cX12_longOf 51 = .ok (.goto (-47), 3) := by decide +kernel
theorem dX12_longOf_54 : decode cX12_longOf 54 = .ok (.iload_n 2, 1) := by decide +kernel
theorem dX12_longOf_55 : decode cX12_longOf 55 = .ok (.ireturn, 1) := by decide +kernel
def g_X12_longOf : Nat → EA := (t_n 27 (t_n 12 (t_n 4 (t_n 2 (t_n 1 (t_l 0 (a_push 1 (.int 0))) (t_l 1 (a_istore 4 1 2))) (t_n 3 (t_l 2 (a_push 1 (.int 0))) (t_l 3 (a_istore 4 1 3)))) (t_n 6 (t_n 5 (t_l 4 (a_iload 1 3)) (t_l 5 (a_aload 1 0))) (t_n 9 (t_l 6 (a_getf 12 24)) (t_l 9 (a_getf 13 6))))) (t_n 18 (t_n 14 (t_n 13 (t_l 12 (a_iload 1 1)) (t_l 13 (a_ild 0))) (t_n 17 (t_l 14 (a_ic 54 (fun x y => decide (y ≤ x)))) (t_l 17 (a_aload 1 0)))) (t_n 22 (t_n 21 (t_l 18 (a_getf 12 14)) (t_l 21 (a_iload 1 1))) (t_n 23 (t_l 22 (a_ild 1)) (t_n 26 (t_l 23 (a_if 54 (fun x => decide (x = 0)))) (t_l 26 (a_iload 1 2))))))) (t_n 41 (t_n 34 (t_n 31 (t_n 28 (t_l 27 (a_aload 1 0)) (t_l 28 (a_getf 12 17))) (t_n 32 (t_l 31 (a_iload 1 1)) (t_l 32 (a_push 2 (.int 8))))) (t_n 36 (t_n 35 (t_l 34 (a_ii 1 (fun x y => x * y))) (t_l 35 (a_iload 1 3))) (t_n 37 (t_l 36 (a_ii 1 (fun x y => x + y))) (t_n 38 (t_l 37 (a_ild 1)) (t_l 38 (a_if 45 (fun x => decide (x = 0)))))))) (t_n 47 (t_n 45 (t_n 42 (t_l 41 (a_push 1 (.int 1))) (t_l 42 (a_goto 46))) (t_n 46 (t_l 45 (a_push 1 (.int 0))) (t_l 46 (a_ii 1 (fun x y => x + y))))) (t_n 51 (t_n 48 (t_l 47 (a_istore 4 1 2)) (t_l 48 (a_iinc 4 3 1))) (t_n 54 (t_l 51 (a_goto 4)) (t_n 55 (t_l 54 (a_iload 1 2)) (t_l 55 a_iret)))))))
set_option maxRecDepth 100000 in
theorem k_X12_longOf (d : Nat) : ∀ pc, ev_Ok cX12_longOf 4 [] RX12 lw_g lw_n lw_q vwCl false (ev_CO mt lw_g lw_n lw_q vwCl d) pc (g_X12_longOf pc) := (ok_t_n (ok_t_n (ok_t_n (ok_t_n (ok_t_n (ok_t_l (ok_iconst dX12_longOf_0 rfl)) (ok_t_l (ok_istore_n dX12_longOf_1 rfl))) (ok_t_n (ok_t_l (ok_iconst dX12_longOf_2 rfl)) (ok_t_l (ok_istore_n dX12_longOf_3 rfl)))) (ok_t_n (ok_t_n (ok_t_l (ok_iload_n dX12_longOf_4 rfl)) (ok_t_l (ok_aload_n dX12_longOf_5 rfl))) (ok_t_n (ok_t_l (ok_getfield dX12_longOf_6 (ci := 12) (kf := 24) rfl inGX12 (by decide) w_1891)) (ok_t_l (ok_getfieldN dX12_longOf_9 (ci := 13) (kf := 6) rfl inGX13 (by decide) (nst_35)))))) (ok_t_n (ok_t_n (ok_t_n (ok_t_l (ok_iload_n dX12_longOf_12 rfl)) (ok_t_l (ok_iaload dX12_longOf_13))) (ok_t_n (ok_t_l (ok_icmp_ge dX12_longOf_14 rfl)) (ok_t_l (ok_aload_n dX12_longOf_17 rfl)))) (ok_t_n (ok_t_n (ok_t_l (ok_getfield dX12_longOf_18 (ci := 12) (kf := 14) rfl inGX12 (by decide) w_1872)) (ok_t_l (ok_iload_n dX12_longOf_21 rfl))) (ok_t_n (ok_t_l (ok_zaload dX12_longOf_22)) (ok_t_n (ok_t_l (ok_if_eq dX12_longOf_23 rfl)) (ok_t_l (ok_iload_n dX12_longOf_26 rfl))))))) (ok_t_n (ok_t_n (ok_t_n (ok_t_n (ok_t_l (ok_aload_n dX12_longOf_27 rfl)) (ok_t_l (ok_getfield dX12_longOf_28 (ci := 12) (kf := 17) rfl inGX12 (by decide) w_1878))) (ok_t_n (ok_t_l (ok_iload_n dX12_longOf_31 rfl)) (ok_t_l (ok_bipush dX12_longOf_32 rfl)))) (ok_t_n (ok_t_n (ok_t_l (ok_imul dX12_longOf_34)) (ok_t_l (ok_iload_n dX12_longOf_35 rfl))) (ok_t_n (ok_t_l (ok_iadd dX12_longOf_36)) (ok_t_n (ok_t_l (ok_zaload dX12_longOf_37)) (ok_t_l (ok_if_eq dX12_longOf_38 rfl)))))) (ok_t_n (ok_t_n (ok_t_n (ok_t_l (ok_iconst dX12_longOf_41 rfl)) (ok_t_l (ok_goto dX12_longOf_42 rfl))) (ok_t_n (ok_t_l (ok_iconst dX12_longOf_45 rfl)) (ok_t_l (ok_iadd dX12_longOf_46)))) (ok_t_n (ok_t_n (ok_t_l (ok_istore_n dX12_longOf_47 rfl)) (ok_t_l (ok_iinc dX12_longOf_48 rfl))) (ok_t_n (ok_t_l (ok_goto dX12_longOf_51 rfl)) (ok_t_n (ok_t_l (ok_iload_n dX12_longOf_54 rfl)) (ok_t_l (ok_ireturn dX12_longOf_55))))))))
theorem dX12_allLong_0 : decode cX12_allLong 0 = .ok (.iconst 0, 1) := by decide +kernel
theorem dX12_allLong_1 : decode cX12_allLong 1 = .ok (.istore_n 1, 1) := by decide +kernel
theorem dX12_allLong_2 : decode cX12_allLong 2 = .ok (.iconst 0, 1) := by decide +kernel
theorem dX12_allLong_3 : decode cX12_allLong 3 = .ok (.istore_n 2, 1) := by decide +kernel
theorem dX12_allLong_4 : decode cX12_allLong 4 = .ok (.iload_n 2, 1) := by decide +kernel
theorem dX12_allLong_5 : decode cX12_allLong 5 = .ok (.bipush 24, 2) := by decide +kernel
theorem dX12_allLong_7 : decode cX12_allLong 7 = .ok (.if_icmp .ge 45, 3) := by decide +kernel
theorem dX12_allLong_10 : decode cX12_allLong 10 = .ok (.iconst 0, 1) := by decide +kernel
theorem dX12_allLong_11 : decode cX12_allLong 11 = .ok (.istore_n 3, 1) := by decide +kernel
theorem dX12_allLong_12 : decode cX12_allLong 12 = .ok (.iload_n 3, 1) := by decide +kernel
theorem dX12_allLong_13 : decode cX12_allLong 13 = .ok (.bipush 8, 2) := by decide +kernel
theorem dX12_allLong_15 : decode cX12_allLong 15 = .ok (.if_icmp .ge 31, 3) := by decide +kernel
theorem dX12_allLong_18 : decode cX12_allLong 18 = .ok (.iload_n 1, 1) := by decide +kernel
theorem dX12_allLong_19 : decode cX12_allLong 19 = .ok (.aload_n 0, 1) := by decide +kernel
theorem dX12_allLong_20 : decode cX12_allLong 20 = .ok (.getfield 53, 3) := by decide +kernel
theorem dX12_allLong_23 : decode cX12_allLong 23 = .ok (.iload_n 2, 1) := by decide +kernel
theorem dX12_allLong_24 : decode cX12_allLong 24 = .ok (.bipush 8, 2) := by decide +kernel
theorem dX12_allLong_26 : decode cX12_allLong 26 = .ok (.imul, 1) := by decide +kernel
theorem dX12_allLong_27 : decode cX12_allLong 27 = .ok (.iload_n 3, 1) := by decide +kernel
theorem dX12_allLong_28 : decode cX12_allLong 28 = .ok (.iadd, 1) := by decide +kernel
theorem dX12_allLong_29 : decode cX12_allLong 29 = .ok (.baload, 1) := by decide +kernel
theorem dX12_allLong_30 : decode cX12_allLong 30 = .ok (.ifCond .eq 7, 3) := by decide +kernel
theorem dX12_allLong_33 : decode cX12_allLong 33 = .ok (.iconst 1, 1) := by decide +kernel
theorem dX12_allLong_34 : decode cX12_allLong 34 = .ok (.goto 4, 3) := by decide +kernel
theorem dX12_allLong_37 : decode cX12_allLong 37 = .ok (.iconst 0, 1) := by decide +kernel
theorem dX12_allLong_38 : decode cX12_allLong 38 = .ok (.iadd, 1) := by decide +kernel
theorem dX12_allLong_39 : decode cX12_allLong 39 = .ok (.istore_n 1, 1) := by decide +kernel
theorem dX12_allLong_40 : decode cX12_allLong 40 = .ok (.iinc 3 1, 3) := by decide +kernel
theorem dX12_allLong_43 : decode cX12_allLong 43 = .ok (.goto (-31), 3) := by decide +kernel
theorem dX12_allLong_46 : decode cX12_allLong 46 = .ok (.iinc 2 1, 3) := by decide +kernel
theorem dX12_allLong_49 : decode cX12_allLong 49 = .ok (.goto (-45), 3) := by decide +kernel
theorem dX12_allLong_52 : decode cX12_allLong 52 = .ok (.iload_n 1, 1) := by decide +kernel
theorem dX12_allLong_53 : decode cX12_allLong 53 = .ok (.ireturn, 1) := by decide +kernel
def g_X12_allLong : Nat → EA := (t_n 24 (t_n 11 (t_n 4 (t_n 2 (t_n 1 (t_l 0 (a_push 1 (.int 0))) (t_l 1 (a_istore 4 1 1))) (t_n 3 (t_l 2 (a_push 1 (.int 0))) (t_l 3 (a_istore 4 1 2)))) (t_n 7 (t_n 5 (t_l 4 (a_iload 1 2)) (t_l 5 (a_push 2 (.int 24)))) (t_n 10 (t_l 7 (a_ic 52 (fun x y => decide (y ≤ x)))) (t_l 10 (a_push 1 (.int 0)))))) (t_n 18 (t_n 13 (t_n 12 (t_l 11 (a_istore 4 1 3)) (t_l 12 (a_iload 1 3))) (t_n 15 (t_l 13 (a_push 2 (.int 8))) (t_l 15 (a_ic 46 (fun x y => decide (y ≤ x)))))) (t_n 20 (t_n 19 (t_l 18 (a_iload 1 1)) (t_l 19 (a_aload 1 0))) (t_n 23 (t_l 20 (a_getf 12 17)) (t_l 23 (a_iload 1 2)))))) (t_n 37 (t_n 29 (t_n 27 (t_n 26 (t_l 24 (a_push 2 (.int 8))) (t_l 26 (a_ii 1 (fun x y => x * y)))) (t_n 28 (t_l 27 (a_iload 1 3)) (t_l 28 (a_ii 1 (fun x y => x + y))))) (t_n 33 (t_n 30 (t_l 29 (a_ild 1)) (t_l 30 (a_if 37 (fun x => decide (x = 0))))) (t_n 34 (t_l 33 (a_push 1 (.int 1))) (t_l 34 (a_goto 38))))) (t_n 43 (t_n 39 (t_n 38 (t_l 37 (a_push 1 (.int 0))) (t_l 38 (a_ii 1 (fun x y => x + y)))) (t_n 40 (t_l 39 (a_istore 4 1 1)) (t_l 40 (a_iinc 4 3 1)))) (t_n 49 (t_n 46 (t_l 43 (a_goto 12)) (t_l 46 (a_iinc 4 2 1))) (t_n 52 (t_l 49 (a_goto 4)) (t_n 53 (t_l 52 (a_iload 1 1)) (t_l 53 a_iret)))))))
set_option maxRecDepth 100000 in
theorem k_X12_allLong (d : Nat) : ∀ pc, ev_Ok cX12_allLong 4 [] RX12 lw_g lw_n lw_q vwCl false (ev_CO mt lw_g lw_n lw_q vwCl d) pc (g_X12_allLong pc) := (ok_t_n (ok_t_n (ok_t_n (ok_t_n (ok_t_n (ok_t_l (ok_iconst dX12_allLong_0 rfl)) (ok_t_l (ok_istore_n dX12_allLong_1 rfl))) (ok_t_n (ok_t_l (ok_iconst dX12_allLong_2 rfl)) (ok_t_l (ok_istore_n dX12_allLong_3 rfl)))) (ok_t_n (ok_t_n (ok_t_l (ok_iload_n dX12_allLong_4 rfl)) (ok_t_l (ok_bipush dX12_allLong_5 rfl))) (ok_t_n (ok_t_l (ok_icmp_ge dX12_allLong_7 rfl)) (ok_t_l (ok_iconst dX12_allLong_10 rfl))))) (ok_t_n (ok_t_n (ok_t_n (ok_t_l (ok_istore_n dX12_allLong_11 rfl)) (ok_t_l (ok_iload_n dX12_allLong_12 rfl))) (ok_t_n (ok_t_l (ok_bipush dX12_allLong_13 rfl)) (ok_t_l (ok_icmp_ge dX12_allLong_15 rfl)))) (ok_t_n (ok_t_n (ok_t_l (ok_iload_n dX12_allLong_18 rfl)) (ok_t_l (ok_aload_n dX12_allLong_19 rfl))) (ok_t_n (ok_t_l (ok_getfield dX12_allLong_20 (ci := 12) (kf := 17) rfl inGX12 (by decide) w_1878)) (ok_t_l (ok_iload_n dX12_allLong_23 rfl)))))) (ok_t_n (ok_t_n (ok_t_n (ok_t_n (ok_t_l (ok_bipush dX12_allLong_24 rfl)) (ok_t_l (ok_imul dX12_allLong_26))) (ok_t_n (ok_t_l (ok_iload_n dX12_allLong_27 rfl)) (ok_t_l (ok_iadd dX12_allLong_28)))) (ok_t_n (ok_t_n (ok_t_l (ok_zaload dX12_allLong_29)) (ok_t_l (ok_if_eq dX12_allLong_30 rfl))) (ok_t_n (ok_t_l (ok_iconst dX12_allLong_33 rfl)) (ok_t_l (ok_goto dX12_allLong_34 rfl))))) (ok_t_n (ok_t_n (ok_t_n (ok_t_l (ok_iconst dX12_allLong_37 rfl)) (ok_t_l (ok_iadd dX12_allLong_38))) (ok_t_n (ok_t_l (ok_istore_n dX12_allLong_39 rfl)) (ok_t_l (ok_iinc dX12_allLong_40 rfl)))) (ok_t_n (ok_t_n (ok_t_l (ok_goto dX12_allLong_43 rfl)) (ok_t_l (ok_iinc dX12_allLong_46 rfl))) (ok_t_n (ok_t_l (ok_goto dX12_allLong_49 rfl)) (ok_t_n (ok_t_l (ok_iload_n dX12_allLong_52 rfl)) (ok_t_l (ok_ireturn dX12_allLong_53))))))))
theorem dX12_ofName_0 : decode cX12_ofName 0 = .ok (.iload_n 2, 1) := by decide +kernel
theorem dX12_ofName_1 : decode cX12_ofName 1 = .ok (.tableswitch 69 0 3 #[31, 38, 45, 52], 31) := by decide +kernel
theorem dX12_ofName_32 : decode cX12_ofName 32 = .ok (.aload_n 0, 1) := by decide +kernel
theorem dX12_ofName_33 : decode cX12_ofName 33 = .ok (.getfield 22, 3) := by decide +kernel
theorem dX12_ofName_36 : decode cX12_ofName 36 = .ok (.iload_n 1, 1) := by decide +kernel
theorem dX12_ofName_37 : decode cX12_ofName 37 = .ok (.iaload, 1) := by decide +kernel
theorem dX12_ofName_38 : decode cX12_ofName 38 = .ok (.ireturn, 1) := by decide +kernel
theorem dX12_ofName_39 : decode cX12_ofName 39 = .ok (.aload_n 0, 1) := by decide +kernel
theorem dX12_ofName_40 : decode cX12_ofName 40 = .ok (.getfield 25, 3) := by decide +kernel
theorem dX12_ofName_43 : decode cX12_ofName 43 = .ok (.iload_n 1, 1) := by decide +kernel
theorem dX12_ofName_44 : decode cX12_ofName 44 = .ok (.iaload, 1) := by decide +kernel
theorem dX12_ofName_45 : decode cX12_ofName 45 = .ok (.ireturn, 1) := by decide +kernel
theorem dX12_ofName_46 : decode cX12_ofName 46 = .ok (.aload_n 0, 1) := by decide +kernel
theorem dX12_ofName_47 : decode cX12_ofName 47 = .ok (.getfield 34, 3) := by decide +kernel
theorem dX12_ofName_50 : decode cX12_ofName 50 = .ok (.iload_n 1, 1) := by decide +kernel
theorem dX12_ofName_51 : decode cX12_ofName 51 = .ok (.iaload, 1) := by decide +kernel
theorem dX12_ofName_52 : decode cX12_ofName 52 = .ok (.ireturn, 1) := by decide +kernel
theorem dX12_ofName_53 : decode cX12_ofName 53 = .ok (.aload_n 0, 1) := by decide +kernel
theorem dX12_ofName_54 : decode cX12_ofName 54 = .ok (.getfield 211, 3) := by decide +kernel
theorem dX12_ofName_57 : decode cX12_ofName 57 = .ok (.iload_n 1, 1) := by decide +kernel
theorem dX12_ofName_58 : decode cX12_ofName 58 = .ok (.invokestatic 109, 3) := by decide +kernel
theorem dX12_ofName_61 : decode cX12_ofName 61 = .ok (.ifCond .eq 7, 3) := by decide +kernel
theorem dX12_ofName_64 : decode cX12_ofName 64 = .ok (.iconst 1, 1) := by decide +kernel
theorem dX12_ofName_65 : decode cX12_ofName 65 = .ok (.goto 4, 3) := by decide +kernel
theorem dX12_ofName_68 : decode cX12_ofName 68 = .ok (.iconst 0, 1) := by decide +kernel
theorem dX12_ofName_69 : decode cX12_ofName 69 = .ok (.ireturn, 1) := by decide +kernel
theorem dX12_ofName_70 : decode cX12_ofName 70 = .ok (.aload_n 0, 1) := by decide +kernel
theorem dX12_ofName_71 : decode cX12_ofName 71 = .ok (.getfield 37, 3) := by decide +kernel
theorem dX12_ofName_74 : decode cX12_ofName 74 = .ok (.iload_n 1, 1) := by decide +kernel
theorem dX12_ofName_75 : decode cX12_ofName 75 = .ok (.iaload, 1) := by decide +kernel
theorem dX12_ofName_76 : decode cX12_ofName 76 = .ok (.ireturn, 1) := by decide +kernel
def g_X12_ofName : Nat → EA := (t_n 51 (t_n 39 (t_n 33 (t_n 1 (t_l 0 (a_iload 1 2)) (t_n 32 (t_l 1 (a_tsw 0 [32, 39, 46, 53] 70)) (t_l 32 (a_aload 1 0)))) (t_n 37 (t_n 36 (t_l 33 (a_getf 12 7)) (t_l 36 (a_iload 1 1))) (t_n 38 (t_l 37 (a_ild 0)) (t_l 38 a_iret)))) (t_n 45 (t_n 43 (t_n 40 (t_l 39 (a_aload 1 0)) (t_l 40 (a_getf 12 8))) (t_n 44 (t_l 43 (a_iload 1 1)) (t_l 44 (a_ild 0)))) (t_n 47 (t_n 46 (t_l 45 a_iret) (t_l 46 (a_aload 1 0))) (t_n 50 (t_l 47 (a_getf 12 11)) (t_l 50 (a_iload 1 1)))))) (t_n 65 (t_n 57 (t_n 53 (t_n 52 (t_l 51 (a_ild 0)) (t_l 52 a_iret)) (t_n 54 (t_l 53 (a_aload 1 0)) (t_l 54 (a_getf 12 18)))) (t_n 61 (t_n 58 (t_l 57 (a_iload 1 1)) (t_l 58 (a_inv false 231 2 none))) (t_n 64 (t_l 61 (a_if 68 (fun x => decide (x = 0)))) (t_l 64 (a_push 1 (.int 1)))))) (t_n 71 (t_n 69 (t_n 68 (t_l 65 (a_goto 69)) (t_l 68 (a_push 1 (.int 0)))) (t_n 70 (t_l 69 a_iret) (t_l 70 (a_aload 1 0)))) (t_n 75 (t_n 74 (t_l 71 (a_getf 12 12)) (t_l 74 (a_iload 1 1))) (t_n 76 (t_l 75 (a_ild 0)) (t_l 76 a_iret))))))
set_option maxRecDepth 100000 in
theorem k_X12_ofName (d : Nat) : ∀ pc, ev_Ok cX12_ofName 3 [] RX12 lw_g lw_n lw_q vwCl false (ev_CO mt lw_g lw_n lw_q vwCl d) pc (g_X12_ofName pc) := (ok_t_n (ok_t_n (ok_t_n (ok_t_n (ok_t_l (ok_iload_n dX12_ofName_0 rfl)) (ok_t_n (ok_t_l (ok_tsw dX12_ofName_1 rfl rfl rfl)) (ok_t_l (ok_aload_n dX12_ofName_32 rfl)))) (ok_t_n (ok_t_n (ok_t_l (ok_getfield dX12_ofName_33 (ci := 12) (kf := 7) rfl inGX12 (by decide) w_1863)) (ok_t_l (ok_iload_n dX12_ofName_36 rfl))) (ok_t_n (ok_t_l (ok_iaload dX12_ofName_37)) (ok_t_l (ok_ireturn dX12_ofName_38))))) (ok_t_n (ok_t_n (ok_t_n (ok_t_l (ok_aload_n dX12_ofName_39 rfl)) (ok_t_l (ok_getfield dX12_ofName_40 (ci := 12) (kf := 8) rfl inGX12 (by decide) w_1864))) (ok_t_n (ok_t_l (ok_iload_n dX12_ofName_43 rfl)) (ok_t_l (ok_iaload dX12_ofName_44)))) (ok_t_n (ok_t_n (ok_t_l (ok_ireturn dX12_ofName_45)) (ok_t_l (ok_aload_n dX12_ofName_46 rfl))) (ok_t_n (ok_t_l (ok_getfield dX12_ofName_47 (ci := 12) (kf := 11) rfl inGX12 (by decide) w_1868)) (ok_t_l (ok_iload_n dX12_ofName_50 rfl)))))) (ok_t_n (ok_t_n (ok_t_n (ok_t_n (ok_t_l (ok_iaload dX12_ofName_51)) (ok_t_l (ok_ireturn dX12_ofName_52))) (ok_t_n (ok_t_l (ok_aload_n dX12_ofName_53 rfl)) (ok_t_l (ok_getfield dX12_ofName_54 (ci := 12) (kf := 18) rfl inGX12 (by decide) w_1879)))) (ok_t_n (ok_t_n (ok_t_l (ok_iload_n dX12_ofName_57 rfl)) (ok_t_l (ok_inv (run_SN (y := 231) (n := 2) dX12_ofName_58 cz_231 gdG cc_231 ci_231 nst_44 cm_231 cd_231 cl_231)))) (ok_t_n (ok_t_l (ok_if_eq dX12_ofName_61 rfl)) (ok_t_l (ok_iconst dX12_ofName_64 rfl))))) (ok_t_n (ok_t_n (ok_t_n (ok_t_l (ok_goto dX12_ofName_65 rfl)) (ok_t_l (ok_iconst dX12_ofName_68 rfl))) (ok_t_n (ok_t_l (ok_ireturn dX12_ofName_69)) (ok_t_l (ok_aload_n dX12_ofName_70 rfl)))) (ok_t_n (ok_t_n (ok_t_l (ok_getfield dX12_ofName_71 (ci := 12) (kf := 12) rfl inGX12 (by decide) w_1870)) (ok_t_l (ok_iload_n dX12_ofName_74 rfl))) (ok_t_n (ok_t_l (ok_iaload dX12_ofName_75)) (ok_t_l (ok_ireturn dX12_ofName_76)))))))
theorem dX12_reachedSections_0 : decode cX12_reachedSections 0 = .ok (.iconst 0, 1) := by decide +kernel
theorem dX12_reachedSections_1 : decode cX12_reachedSections 1 = .ok (.istore_n 1, 1) := by decide +kernel
theorem dX12_reachedSections_2 : decode cX12_reachedSections 2 = .ok (.iconst 0, 1) := by decide +kernel
theorem dX12_reachedSections_3 : decode cX12_reachedSections 3 = .ok (.istore_n 2, 1) := by decide +kernel
theorem dX12_reachedSections_4 : decode cX12_reachedSections 4 = .ok (.iload_n 2, 1) := by decide +kernel
theorem dX12_reachedSections_5 : decode cX12_reachedSections 5 = .ok (.bipush 24, 2) := by decide +kernel
theorem dX12_reachedSections_7 : decode cX12_reachedSections 7 = .ok (.if_icmp .ge 26, 3) := by decide +kernel
theorem dX12_reachedSections_10 : decode cX12_reachedSections 10 = .ok (.iload_n 1, 1) := by decide +kernel
theorem dX12_reachedSections_11 : decode cX12_reachedSections 11 = .ok (.aload_n 0, 1) := by decide +kernel
theorem dX12_reachedSections_12 : decode cX12_reachedSections 12 = .ok (.getfield 44, 3) := by decide +kernel
theorem dX12_reachedSections_15 : decode cX12_reachedSections 15 = .ok (.iload_n 2, 1) := by decide +kernel
theorem dX12_reachedSections_16 : decode cX12_reachedSections 16 = .ok (.baload, 1) := by decide +kernel
theorem dX12_reachedSections_17 : decode cX12_reachedSections 17 = .ok (.ifCond .eq 7, 3) := by decide +kernel
theorem dX12_reachedSections_20 : decode cX12_reachedSections 20 = .ok (.iconst 1, 1) := by decide +kernel
theorem dX12_reachedSections_21 : decode cX12_reachedSections 21 = .ok (.goto 4, 3) := by decide +kernel
theorem dX12_reachedSections_24 : decode cX12_reachedSections 24 = .ok (.iconst 0, 1) := by decide +kernel
theorem dX12_reachedSections_25 : decode cX12_reachedSections 25 = .ok (.iadd, 1) := by decide +kernel
theorem dX12_reachedSections_26 : decode cX12_reachedSections 26 = .ok (.istore_n 1, 1) := by decide +kernel
theorem dX12_reachedSections_27 : decode cX12_reachedSections 27 = .ok (.iinc 2 1, 3) := by decide +kernel
theorem dX12_reachedSections_30 : decode cX12_reachedSections 30 = .ok (.goto (-26), 3) := by decide +kernel
theorem dX12_reachedSections_33 : decode cX12_reachedSections 33 = .ok (.iload_n 1, 1) := by decide +kernel
theorem dX12_reachedSections_34 : decode cX12_reachedSections 34 = .ok (.ireturn, 1) := by decide +kernel
def g_X12_reachedSections : Nat → EA := (t_n 16 (t_n 5 (t_n 2 (t_n 1 (t_l 0 (a_push 1 (.int 0))) (t_l 1 (a_istore 3 1 1))) (t_n 3 (t_l 2 (a_push 1 (.int 0))) (t_n 4 (t_l 3 (a_istore 3 1 2)) (t_l 4 (a_iload 1 2))))) (t_n 11 (t_n 7 (t_l 5 (a_push 2 (.int 24))) (t_n 10 (t_l 7 (a_ic 33 (fun x y => decide (y ≤ x)))) (t_l 10 (a_iload 1 1)))) (t_n 12 (t_l 11 (a_aload 1 0)) (t_n 15 (t_l 12 (a_getf 12 14)) (t_l 15 (a_iload 1 2)))))) (t_n 25 (t_n 20 (t_n 17 (t_l 16 (a_ild 1)) (t_l 17 (a_if 24 (fun x => decide (x = 0))))) (t_n 21 (t_l 20 (a_push 1 (.int 1))) (t_n 24 (t_l 21 (a_goto 25)) (t_l 24 (a_push 1 (.int 0)))))) (t_n 30 (t_n 26 (t_l 25 (a_ii 1 (fun x y => x + y))) (t_n 27 (t_l 26 (a_istore 3 1 1)) (t_l 27 (a_iinc 3 2 1)))) (t_n 33 (t_l 30 (a_goto 4)) (t_n 34 (t_l 33 (a_iload 1 1)) (t_l 34 a_iret))))))
set_option maxRecDepth 100000 in
theorem k_X12_reachedSections (d : Nat) : ∀ pc, ev_Ok cX12_reachedSections 3 [] RX12 lw_g lw_n lw_q vwCl false (ev_CO mt lw_g lw_n lw_q vwCl d) pc (g_X12_reachedSections pc) := (ok_t_n (ok_t_n (ok_t_n (ok_t_n (ok_t_l (ok_iconst dX12_reachedSections_0 rfl)) (ok_t_l (ok_istore_n dX12_reachedSections_1 rfl))) (ok_t_n (ok_t_l (ok_iconst dX12_reachedSections_2 rfl)) (ok_t_n (ok_t_l (ok_istore_n dX12_reachedSections_3 rfl)) (ok_t_l (ok_iload_n dX12_reachedSections_4 rfl))))) (ok_t_n (ok_t_n (ok_t_l (ok_bipush dX12_reachedSections_5 rfl)) (ok_t_n (ok_t_l (ok_icmp_ge dX12_reachedSections_7 rfl)) (ok_t_l (ok_iload_n dX12_reachedSections_10 rfl)))) (ok_t_n (ok_t_l (ok_aload_n dX12_reachedSections_11 rfl)) (ok_t_n (ok_t_l (ok_getfield dX12_reachedSections_12 (ci := 12) (kf := 14) rfl inGX12 (by decide) w_1872)) (ok_t_l (ok_iload_n dX12_reachedSections_15 rfl)))))) (ok_t_n (ok_t_n (ok_t_n (ok_t_l (ok_zaload dX12_reachedSections_16)) (ok_t_l (ok_if_eq dX12_reachedSections_17 rfl))) (ok_t_n (ok_t_l (ok_iconst dX12_reachedSections_20 rfl)) (ok_t_n (ok_t_l (ok_goto dX12_reachedSections_21 rfl)) (ok_t_l (ok_iconst dX12_reachedSections_24 rfl))))) (ok_t_n (ok_t_n (ok_t_l (ok_iadd dX12_reachedSections_25)) (ok_t_n (ok_t_l (ok_istore_n dX12_reachedSections_26 rfl)) (ok_t_l (ok_iinc dX12_reachedSections_27 rfl)))) (ok_t_n (ok_t_l (ok_goto dX12_reachedSections_30 rfl)) (ok_t_n (ok_t_l (ok_iload_n dX12_reachedSections_33 rfl)) (ok_t_l (ok_ireturn dX12_reachedSections_34)))))))
theorem dX13_init_0 : decode cX13_init 0 = .ok (.aload_n 0, 1) := by decide +kernel
theorem dX13_init_1 : decode cX13_init 1 = .ok (.invokespecial 1, 3) := by decide +kernel
theorem dX13_init_4 : decode cX13_init 4 = .ok (.aload_n 0, 1) := by decide +kernel
theorem dX13_init_5 : decode cX13_init 5 = .ok (.bipush 24, 2) := by decide +kernel
theorem dX13_init_7 : decode cX13_init 7 = .ok (.newarray .int, 2) := by decide +kernel
theorem dX13_init_9 : decode cX13_init 9 = .ok (.putfield 9, 3) := by decide +kernel
theorem dX13_init_12 : decode cX13_init 12 = .ok (.aload_n 0, 1) := by decide +kernel
theorem dX13_init_13 : decode cX13_init 13 = .ok (.bipush 24, 2) := by decide +kernel
theorem dX13_init_15 : decode cX13_init 15 = .ok (.newarray .int, 2) := by decide +kernel
theorem dX13_init_17 : decode cX13_init 17 = .ok (.putfield 13, 3) := by decide +kernel
theorem dX13_init_20 : decode cX13_init 20 = .ok (.aload_n 0, 1) := by decide +kernel
theorem dX13_init_21 : decode cX13_init 21 = .ok (.bipush 24, 2) := by decide +kernel
theorem dX13_init_23 : decode cX13_init 23 = .ok (.newarray .int, 2) := by decide +kernel
theorem dX13_init_25 : decode cX13_init 25 = .ok (.putfield 16, 3) := by decide +kernel
theorem dX13_init_28 : decode cX13_init 28 = .ok (.aload_n 0, 1) := by decide +kernel
theorem dX13_init_29 : decode cX13_init 29 = .ok (.bipush 24, 2) := by decide +kernel
theorem dX13_init_31 : decode cX13_init 31 = .ok (.newarray .boolean, 2) := by decide +kernel
theorem dX13_init_33 : decode cX13_init 33 = .ok (.putfield 19, 3) := by decide +kernel
theorem dX13_init_36 : decode cX13_init 36 = .ok (.aload_n 0, 1) := by decide +kernel
theorem dX13_init_37 : decode cX13_init 37 = .ok (.sipush 768, 3) := by decide +kernel
theorem dX13_init_40 : decode cX13_init 40 = .ok (.newarray .int, 2) := by decide +kernel
theorem dX13_init_42 : decode cX13_init 42 = .ok (.putfield 23, 3) := by decide +kernel
theorem dX13_init_45 : decode cX13_init 45 = .ok (.aload_n 0, 1) := by decide +kernel
theorem dX13_init_46 : decode cX13_init 46 = .ok (.sipush 200, 3) := by decide +kernel
theorem dX13_init_49 : decode cX13_init 49 = .ok (.newarray .int, 2) := by decide +kernel
theorem dX13_init_51 : decode cX13_init 51 = .ok (.putfield 26, 3) := by decide +kernel
theorem dX13_init_54 : decode cX13_init 54 = .ok (.aload_n 0, 1) := by decide +kernel
theorem dX13_init_55 : decode cX13_init 55 = .ok (.sipush 200, 3) := by decide +kernel
theorem dX13_init_58 : decode cX13_init 58 = .ok (.newarray .int, 2) := by decide +kernel
theorem dX13_init_60 : decode cX13_init 60 = .ok (.putfield 29, 3) := by decide +kernel
theorem dX13_init_63 : decode cX13_init 63 = .ok (.aload_n 0, 1) := by decide +kernel
theorem dX13_init_64 : decode cX13_init 64 = .ok (.sipush 200, 3) := by decide +kernel
theorem dX13_init_67 : decode cX13_init 67 = .ok (.newarray .int, 2) := by decide +kernel
theorem dX13_init_69 : decode cX13_init 69 = .ok (.putfield 32, 3) := by decide +kernel
theorem dX13_init_72 : decode cX13_init 72 = .ok (.aload_n 0, 1) := by decide +kernel
theorem dX13_init_73 : decode cX13_init 73 = .ok (.sipush 200, 3) := by decide +kernel
theorem dX13_init_76 : decode cX13_init 76 = .ok (.newarray .boolean, 2) := by decide +kernel
theorem dX13_init_78 : decode cX13_init 78 = .ok (.putfield 35, 3) := by decide +kernel
theorem dX13_init_81 : decode cX13_init 81 = .ok (.aload_n 0, 1) := by decide +kernel
theorem dX13_init_82 : decode cX13_init 82 = .ok (.bipush 8, 2) := by decide +kernel
theorem dX13_init_84 : decode cX13_init 84 = .ok (.newarray .int, 2) := by decide +kernel
theorem dX13_init_86 : decode cX13_init 86 = .ok (.putfield 38, 3) := by decide +kernel
theorem dX13_init_89 : decode cX13_init 89 = .ok (.aload_n 0, 1) := by decide +kernel
theorem dX13_init_90 : decode cX13_init 90 = .ok (.bipush 8, 2) := by decide +kernel
theorem dX13_init_92 : decode cX13_init 92 = .ok (.newarray .int, 2) := by decide +kernel
theorem dX13_init_94 : decode cX13_init 94 = .ok (.putfield 41, 3) := by decide +kernel
theorem dX13_init_97 : decode cX13_init 97 = .ok (.aload_n 0, 1) := by decide +kernel
theorem dX13_init_98 : decode cX13_init 98 = .ok (.bipush 40, 2) := by decide +kernel
theorem dX13_init_100 : decode cX13_init 100 = .ok (.putfield 44, 3) := by decide +kernel
theorem dX13_init_103 : decode cX13_init 103 = .ok (.aload_n 0, 1) := by decide +kernel
theorem dX13_init_104 : decode cX13_init 104 = .ok (.sipush 9999, 3) := by decide +kernel
theorem dX13_init_107 : decode cX13_init 107 = .ok (.putfield 48, 3) := by decide +kernel
theorem dX13_init_110 : decode cX13_init 110 = .ok (.aload_n 0, 1) := by decide +kernel
theorem dX13_init_111 : decode cX13_init 111 = .ok (.bipush 24, 2) := by decide +kernel
theorem dX13_init_113 : decode cX13_init 113 = .ok (.newarray .int, 2) := by decide +kernel
theorem dX13_init_115 : decode cX13_init 115 = .ok (.putfield 51, 3) := by decide +kernel
theorem dX13_init_118 : decode cX13_init 118 = .ok (.aload_n 0, 1) := by decide +kernel
theorem dX13_init_119 : decode cX13_init 119 = .ok (.bipush 6, 2) := by decide +kernel
theorem dX13_init_121 : decode cX13_init 121 = .ok (.newarray .int, 2) := by decide +kernel
theorem dX13_init_123 : decode cX13_init 123 = .ok (.putfield 54, 3) := by decide +kernel
theorem dX13_init_126 : decode cX13_init 126 = .ok (.aload_n 0, 1) := by decide +kernel
theorem dX13_init_127 : decode cX13_init 127 = .ok (.bipush 6, 2) := by decide +kernel
theorem dX13_init_129 : decode cX13_init 129 = .ok (.newarray .int, 2) := by decide +kernel
theorem dX13_init_131 : decode cX13_init 131 = .ok (.putfield 57, 3) := by decide +kernel
theorem dX13_init_134 : decode cX13_init 134 = .ok (.aload_n 0, 1) := by decide +kernel
theorem dX13_init_135 : decode cX13_init 135 = .ok (.bipush 6, 2) := by decide +kernel
theorem dX13_init_137 : decode cX13_init 137 = .ok (.newarray .int, 2) := by decide +kernel
theorem dX13_init_139 : decode cX13_init 139 = .ok (.putfield 60, 3) := by decide +kernel
theorem dX13_init_142 : decode cX13_init 142 = .ok (.aload_n 0, 1) := by decide +kernel
theorem dX13_init_143 : decode cX13_init 143 = .ok (.bipush 6, 2) := by decide +kernel
theorem dX13_init_145 : decode cX13_init 145 = .ok (.newarray .int, 2) := by decide +kernel
theorem dX13_init_147 : decode cX13_init 147 = .ok (.putfield 63, 3) := by decide +kernel
theorem dX13_init_150 : decode cX13_init 150 = .ok (.aload_n 0, 1) := by decide +kernel
theorem dX13_init_151 : decode cX13_init 151 = .ok (.bipush 6, 2) := by decide +kernel
theorem dX13_init_153 : decode cX13_init 153 = .ok (.newarray .int, 2) := by decide +kernel
theorem dX13_init_155 : decode cX13_init 155 = .ok (.putfield 66, 3) := by decide +kernel
theorem dX13_init_158 : decode cX13_init 158 = .ok (.aload_n 0, 1) := by decide +kernel
theorem dX13_init_159 : decode cX13_init 159 = .ok (.bipush 120, 2) := by decide +kernel
theorem dX13_init_161 : decode cX13_init 161 = .ok (.newarray .int, 2) := by decide +kernel
theorem dX13_init_163 : decode cX13_init 163 = .ok (.putfield 69, 3) := by decide +kernel
theorem dX13_init_166 : decode cX13_init 166 = .ok (.aload_n 0, 1) := by decide +kernel
theorem dX13_init_167 : decode cX13_init 167 = .ok (.bipush 120, 2) := by decide +kernel
theorem dX13_init_169 : decode cX13_init 169 = .ok (.newarray .int, 2) := by decide +kernel
theorem dX13_init_171 : decode cX13_init 171 = .ok (.putfield 72, 3) := by decide +kernel
theorem dX13_init_174 : decode cX13_init 174 = .ok (.aload_n 0, 1) := by decide +kernel
theorem dX13_init_175 : decode cX13_init 175 = .ok (.iconst 0, 1) := by decide +kernel
theorem dX13_init_176 : decode cX13_init 176 = .ok (.newarray .int, 2) := by decide +kernel
theorem dX13_init_178 : decode cX13_init 178 = .ok (.putfield 75, 3) := by decide +kernel
theorem dX13_init_181 : decode cX13_init 181 = .ok (.aload_n 0, 1) := by decide +kernel
theorem dX13_init_182 : decode cX13_init 182 = .ok (.iconst 0, 1) := by decide +kernel
theorem dX13_init_183 : decode cX13_init 183 = .ok (.newarray .int, 2) := by decide +kernel
theorem dX13_init_185 : decode cX13_init 185 = .ok (.putfield 78, 3) := by decide +kernel
theorem dX13_init_188 : decode cX13_init 188 = .ok (.return_, 1) := by decide +kernel
def g_X13_init : Nat → EA := (t_n 97 (t_n 46 (t_n 21 (t_n 9 (t_n 4 (t_n 1 (t_l 0 (a_aload 1 0)) (t_l 1 a_objI)) (t_n 5 (t_l 4 (a_aload 1 0)) (t_n 7 (t_l 5 (a_push 2 (.int 24))) (t_l 7 (a_newa 0))))) (t_n 15 (t_n 12 (t_l 9 (a_putf 9 13 4)) (t_n 13 (t_l 12 (a_aload 1 0)) (t_l 13 (a_push 2 (.int 24))))) (t_n 17 (t_l 15 (a_newa 0)) (t_n 20 (t_l 17 (a_putf 9 13 5)) (t_l 20 (a_aload 1 0)))))) (t_n 33 (t_n 28 (t_n 23 (t_l 21 (a_push 2 (.int 24))) (t_n 25 (t_l 23 (a_newa 0)) (t_l 25 (a_putf 9 13 6)))) (t_n 29 (t_l 28 (a_aload 1 0)) (t_n 31 (t_l 29 (a_push 2 (.int 24))) (t_l 31 (a_newa 1))))) (t_n 40 (t_n 36 (t_l 33 (a_putf 9 13 7)) (t_n 37 (t_l 36 (a_aload 1 0)) (t_l 37 (a_push 3 (.int 768))))) (t_n 42 (t_l 40 (a_newa 0)) (t_n 45 (t_l 42 (a_putf 9 13 8)) (t_l 45 (a_aload 1 0))))))) (t_n 72 (t_n 58 (t_n 51 (t_n 49 (t_l 46 (a_push 3 (.int 200))) (t_l 49 (a_newa 0))) (t_n 54 (t_l 51 (a_putf 9 13 9)) (t_n 55 (t_l 54 (a_aload 1 0)) (t_l 55 (a_push 3 (.int 200)))))) (t_n 64 (t_n 60 (t_l 58 (a_newa 0)) (t_n 63 (t_l 60 (a_putf 9 13 10)) (t_l 63 (a_aload 1 0)))) (t_n 67 (t_l 64 (a_push 3 (.int 200))) (t_n 69 (t_l 67 (a_newa 0)) (t_l 69 (a_putf 9 13 11)))))) (t_n 84 (t_n 78 (t_n 73 (t_l 72 (a_aload 1 0)) (t_n 76 (t_l 73 (a_push 3 (.int 200))) (t_l 76 (a_newa 1)))) (t_n 81 (t_l 78 (a_putf 9 13 12)) (t_n 82 (t_l 81 (a_aload 1 0)) (t_l 82 (a_push 2 (.int 8)))))) (t_n 90 (t_n 86 (t_l 84 (a_newa 0)) (t_n 89 (t_l 86 (a_putf 9 13 13)) (t_l 89 (a_aload 1 0)))) (t_n 92 (t_l 90 (a_push 2 (.int 8))) (t_n 94 (t_l 92 (a_newa 0)) (t_l 94 (a_putf 9 13 14)))))))) (t_n 143 (t_n 119 (t_n 107 (t_n 100 (t_n 98 (t_l 97 (a_aload 1 0)) (t_l 98 (a_push 2 (.int 40)))) (t_n 103 (t_l 100 (a_putf 0 13 15)) (t_n 104 (t_l 103 (a_aload 1 0)) (t_l 104 (a_push 3 (.int 9999)))))) (t_n 113 (t_n 110 (t_l 107 (a_putf 0 13 16)) (t_n 111 (t_l 110 (a_aload 1 0)) (t_l 111 (a_push 2 (.int 24))))) (t_n 115 (t_l 113 (a_newa 0)) (t_n 118 (t_l 115 (a_putf 9 13 19)) (t_l 118 (a_aload 1 0)))))) (t_n 131 (t_n 126 (t_n 121 (t_l 119 (a_push 2 (.int 6))) (t_n 123 (t_l 121 (a_newa 0)) (t_l 123 (a_putf 9 13 21)))) (t_n 127 (t_l 126 (a_aload 1 0)) (t_n 129 (t_l 127 (a_push 2 (.int 6))) (t_l 129 (a_newa 0))))) (t_n 137 (t_n 134 (t_l 131 (a_putf 9 13 22)) (t_n 135 (t_l 134 (a_aload 1 0)) (t_l 135 (a_push 2 (.int 6))))) (t_n 139 (t_l 137 (a_newa 0)) (t_n 142 (t_l 139 (a_putf 9 13 23)) (t_l 142 (a_aload 1 0))))))) (t_n 167 (t_n 155 (t_n 150 (t_n 145 (t_l 143 (a_push 2 (.int 6))) (t_n 147 (t_l 145 (a_newa 0)) (t_l 147 (a_putf 9 13 24)))) (t_n 151 (t_l 150 (a_aload 1 0)) (t_n 153 (t_l 151 (a_push 2 (.int 6))) (t_l 153 (a_newa 0))))) (t_n 161 (t_n 158 (t_l 155 (a_putf 9 13 25)) (t_n 159 (t_l 158 (a_aload 1 0)) (t_l 159 (a_push 2 (.int 120))))) (t_n 163 (t_l 161 (a_newa 0)) (t_n 166 (t_l 163 (a_putf 9 13 26)) (t_l 166 (a_aload 1 0)))))) (t_n 178 (t_n 174 (t_n 169 (t_l 167 (a_push 2 (.int 120))) (t_n 171 (t_l 169 (a_newa 0)) (t_l 171 (a_putf 9 13 27)))) (t_n 175 (t_l 174 (a_aload 1 0)) (t_n 176 (t_l 175 (a_push 1 (.int 0))) (t_l 176 (a_newa 0))))) (t_n 183 (t_n 181 (t_l 178 (a_putf 9 13 28)) (t_n 182 (t_l 181 (a_aload 1 0)) (t_l 182 (a_push 1 (.int 0))))) (t_n 185 (t_l 183 (a_newa 0)) (t_n 188 (t_l 185 (a_putf 9 13 29)) (t_l 188 a_vret))))))))
set_option maxRecDepth 100000 in
theorem k_X13_init (d : Nat) : ∀ pc, ev_Ok cX13_init 1 [] RX13 lw_g lw_n lw_q vwCl true (ev_CO mt lw_g lw_n lw_q vwCl d) pc (g_X13_init pc) := (ok_t_n (ok_t_n (ok_t_n (ok_t_n (ok_t_n (ok_t_n (ok_t_l (ok_aload_n dX13_init_0 rfl)) (ok_t_l (ok_objinit dX13_init_1 w_1558 w_113 w_obj ev_CO.small))) (ok_t_n (ok_t_l (ok_aload_n dX13_init_4 rfl)) (ok_t_n (ok_t_l (ok_bipush dX13_init_5 rfl)) (ok_t_l (ok_newint dX13_init_7 w_152))))) (ok_t_n (ok_t_n (ok_t_l (ok_putfieldF dX13_init_9 (ci := 13) (kf := 4) rfl inGX13 (by decide) tyX13_ok nmX13 rfl w_1566 rfl rfl rfl)) (ok_t_n (ok_t_l (ok_aload_n dX13_init_12 rfl)) (ok_t_l (ok_bipush dX13_init_13 rfl)))) (ok_t_n (ok_t_l (ok_newint dX13_init_15 w_152)) (ok_t_n (ok_t_l (ok_putfieldF dX13_init_17 (ci := 13) (kf := 5) rfl inGX13 (by decide) tyX13_ok nmX13 rfl w_1568 rfl rfl rfl)) (ok_t_l (ok_aload_n dX13_init_20 rfl)))))) (ok_t_n (ok_t_n (ok_t_n (ok_t_l (ok_bipush dX13_init_21 rfl)) (ok_t_n (ok_t_l (ok_newint dX13_init_23 w_152)) (ok_t_l (ok_putfieldF dX13_init_25 (ci := 13) (kf := 6) rfl inGX13 (by decide) tyX13_ok nmX13 rfl w_1570 rfl rfl rfl)))) (ok_t_n (ok_t_l (ok_aload_n dX13_init_28 rfl)) (ok_t_n (ok_t_l (ok_bipush dX13_init_29 rfl)) (ok_t_l (ok_newboolean dX13_init_31 w_187))))) (ok_t_n (ok_t_n (ok_t_l (ok_putfieldF dX13_init_33 (ci := 13) (kf := 7) rfl inGX13 (by decide) tyX13_ok nmX13 rfl w_1572 rfl rfl rfl)) (ok_t_n (ok_t_l (ok_aload_n dX13_init_36 rfl)) (ok_t_l (ok_sipush dX13_init_37 rfl)))) (ok_t_n (ok_t_l (ok_newint dX13_init_40 w_152)) (ok_t_n (ok_t_l (ok_putfieldF dX13_init_42 (ci := 13) (kf := 8) rfl inGX13 (by decide) tyX13_ok nmX13 rfl w_1574 rfl rfl rfl)) (ok_t_l (ok_aload_n dX13_init_45 rfl))))))) (ok_t_n (ok_t_n (ok_t_n (ok_t_n (ok_t_l (ok_sipush dX13_init_46 rfl)) (ok_t_l (ok_newint dX13_init_49 w_152))) (ok_t_n (ok_t_l (ok_putfieldF dX13_init_51 (ci := 13) (kf := 9) rfl inGX13 (by decide) tyX13_ok nmX13 rfl w_1576 rfl rfl rfl)) (ok_t_n (ok_t_l (ok_aload_n dX13_init_54 rfl)) (ok_t_l (ok_sipush dX13_init_55 rfl))))) (ok_t_n (ok_t_n (ok_t_l (ok_newint dX13_init_58 w_152)) (ok_t_n (ok_t_l (ok_putfieldF dX13_init_60 (ci := 13) (kf := 10) rfl inGX13 (by decide) tyX13_ok nmX13 rfl w_1578 rfl rfl rfl)) (ok_t_l (ok_aload_n dX13_init_63 rfl)))) (ok_t_n (ok_t_l (ok_sipush dX13_init_64 rfl)) (ok_t_n (ok_t_l (ok_newint dX13_init_67 w_152)) (ok_t_l (ok_putfieldF dX13_init_69 (ci := 13) (kf := 11) rfl inGX13 (by decide) tyX13_ok nmX13 rfl w_1580 rfl rfl rfl)))))) (ok_t_n (ok_t_n (ok_t_n (ok_t_l (ok_aload_n dX13_init_72 rfl)) (ok_t_n (ok_t_l (ok_sipush dX13_init_73 rfl)) (ok_t_l (ok_newboolean dX13_init_76 w_187)))) (ok_t_n (ok_t_l (ok_putfieldF dX13_init_78 (ci := 13) (kf := 12) rfl inGX13 (by decide) tyX13_ok nmX13 rfl w_1582 rfl rfl rfl)) (ok_t_n (ok_t_l (ok_aload_n dX13_init_81 rfl)) (ok_t_l (ok_bipush dX13_init_82 rfl))))) (ok_t_n (ok_t_n (ok_t_l (ok_newint dX13_init_84 w_152)) (ok_t_n (ok_t_l (ok_putfieldF dX13_init_86 (ci := 13) (kf := 13) rfl inGX13 (by decide) tyX13_ok nmX13 rfl w_1584 rfl rfl rfl)) (ok_t_l (ok_aload_n dX13_init_89 rfl)))) (ok_t_n (ok_t_l (ok_bipush dX13_init_90 rfl)) (ok_t_n (ok_t_l (ok_newint dX13_init_92 w_152)) (ok_t_l (ok_putfieldF dX13_init_94 (ci := 13) (kf := 14) rfl inGX13 (by decide) tyX13_ok nmX13 rfl w_1586 rfl rfl rfl)))))))) (ok_t_n (ok_t_n (ok_t_n (ok_t_n (ok_t_n (ok_t_l (ok_aload_n dX13_init_97 rfl)) (ok_t_l (ok_bipush dX13_init_98 rfl))) (ok_t_n (ok_t_l (ok_putfield dX13_init_100 (ci := 13) (kf := 15) rfl inGX13 (by decide) tyX13_ok nmX13 rfl w_1588 rfl)) (ok_t_n (ok_t_l (ok_aload_n dX13_init_103 rfl)) (ok_t_l (ok_sipush dX13_init_104 rfl))))) (ok_t_n (ok_t_n (ok_t_l (ok_putfield dX13_init_107 (ci := 13) (kf := 16) rfl inGX13 (by decide) tyX13_ok nmX13 rfl w_1589 rfl)) (ok_t_n (ok_t_l (ok_aload_n dX13_init_110 rfl)) (ok_t_l (ok_bipush dX13_init_111 rfl)))) (ok_t_n (ok_t_l (ok_newint dX13_init_113 w_152)) (ok_t_n (ok_t_l (ok_putfieldF dX13_init_115 (ci := 13) (kf := 19) rfl inGX13 (by decide) tyX13_ok nmX13 rfl w_1592 rfl rfl rfl)) (ok_t_l (ok_aload_n dX13_init_118 rfl)))))) (ok_t_n (ok_t_n (ok_t_n (ok_t_l (ok_bipush dX13_init_119 rfl)) (ok_t_n (ok_t_l (ok_newint dX13_init_121 w_152)) (ok_t_l (ok_putfieldF dX13_init_123 (ci := 13) (kf := 21) rfl inGX13 (by decide) tyX13_ok nmX13 rfl w_1594 rfl rfl rfl)))) (ok_t_n (ok_t_l (ok_aload_n dX13_init_126 rfl)) (ok_t_n (ok_t_l (ok_bipush dX13_init_127 rfl)) (ok_t_l (ok_newint dX13_init_129 w_152))))) (ok_t_n (ok_t_n (ok_t_l (ok_putfieldF dX13_init_131 (ci := 13) (kf := 22) rfl inGX13 (by decide) tyX13_ok nmX13 rfl w_1595 rfl rfl rfl)) (ok_t_n (ok_t_l (ok_aload_n dX13_init_134 rfl)) (ok_t_l (ok_bipush dX13_init_135 rfl)))) (ok_t_n (ok_t_l (ok_newint dX13_init_137 w_152)) (ok_t_n (ok_t_l (ok_putfieldF dX13_init_139 (ci := 13) (kf := 23) rfl inGX13 (by decide) tyX13_ok nmX13 rfl w_1596 rfl rfl rfl)) (ok_t_l (ok_aload_n dX13_init_142 rfl))))))) (ok_t_n (ok_t_n (ok_t_n (ok_t_n (ok_t_l (ok_bipush dX13_init_143 rfl)) (ok_t_n (ok_t_l (ok_newint dX13_init_145 w_152)) (ok_t_l (ok_putfieldF dX13_init_147 (ci := 13) (kf := 24) rfl inGX13 (by decide) tyX13_ok nmX13 rfl w_1597 rfl rfl rfl)))) (ok_t_n (ok_t_l (ok_aload_n dX13_init_150 rfl)) (ok_t_n (ok_t_l (ok_bipush dX13_init_151 rfl)) (ok_t_l (ok_newint dX13_init_153 w_152))))) (ok_t_n (ok_t_n (ok_t_l (ok_putfieldF dX13_init_155 (ci := 13) (kf := 25) rfl inGX13 (by decide) tyX13_ok nmX13 rfl w_1598 rfl rfl rfl)) (ok_t_n (ok_t_l (ok_aload_n dX13_init_158 rfl)) (ok_t_l (ok_bipush dX13_init_159 rfl)))) (ok_t_n (ok_t_l (ok_newint dX13_init_161 w_152)) (ok_t_n (ok_t_l (ok_putfieldF dX13_init_163 (ci := 13) (kf := 26) rfl inGX13 (by decide) tyX13_ok nmX13 rfl w_1599 rfl rfl rfl)) (ok_t_l (ok_aload_n dX13_init_166 rfl)))))) (ok_t_n (ok_t_n (ok_t_n (ok_t_l (ok_bipush dX13_init_167 rfl)) (ok_t_n (ok_t_l (ok_newint dX13_init_169 w_152)) (ok_t_l (ok_putfieldF dX13_init_171 (ci := 13) (kf := 27) rfl inGX13 (by decide) tyX13_ok nmX13 rfl w_1600 rfl rfl rfl)))) (ok_t_n (ok_t_l (ok_aload_n dX13_init_174 rfl)) (ok_t_n (ok_t_l (ok_iconst dX13_init_175 rfl)) (ok_t_l (ok_newint dX13_init_176 w_152))))) (ok_t_n (ok_t_n (ok_t_l (ok_putfield dX13_init_178 (ci := 13) (kf := 28) rfl inGX13 (by decide) tyX13_ok nmX13 rfl w_1601 rfl)) (ok_t_n (ok_t_l (ok_aload_n dX13_init_181 rfl)) (ok_t_l (ok_iconst dX13_init_182 rfl)))) (ok_t_n (ok_t_l (ok_newint dX13_init_183 w_152)) (ok_t_n (ok_t_l (ok_putfield dX13_init_185 (ci := 13) (kf := 29) rfl inGX13 (by decide) tyX13_ok nmX13 rfl w_1602 rfl)) (ok_t_l (ok_vreturn dX13_init_188)))))))))
theorem dX13_thrown_0 : decode cX13_thrown 0 = .ok (.aload_n 0, 1) := by decide +kernel
theorem dX13_thrown_1 : decode cX13_thrown 1 = .ok (.getfield 81, 3) := by decide +kernel
theorem dX13_thrown_4 : decode cX13_thrown 4 = .ok (.ireturn, 1) := by decide +kernel
def g_X13_thrown : Nat → EA := (t_n 1 (t_l 0 (a_aload 1 0)) (t_n 4 (t_l 1 (a_getf 13 0)) (t_l 4 a_iret)))
set_option maxRecDepth 100000 in
theorem k_X13_thrown (d : Nat) : ∀ pc, ev_Ok cX13_thrown 1 [] RX13 lw_g lw_n lw_q vwCl false (ev_CO mt lw_g lw_n lw_q vwCl d) pc (g_X13_thrown pc) := (ok_t_n (ok_t_l (ok_aload_n dX13_thrown_0 rfl)) (ok_t_n (ok_t_l (ok_getfield dX13_thrown_1 (ci := 13) (kf := 0) rfl inGX13 (by decide) w_1559)) (ok_t_l (ok_ireturn dX13_thrown_4))))
theorem dX13_no_0 : decode cX13_no 0 = .ok (.aload_n 0, 1) := by decide +kernel
theorem dX13_no_1 : decode cX13_no 1 = .ok (.iload_n 1, 1) := by decide +kernel
theorem dX13_no_2 : decode cX13_no 2 = .ok (.putfield 81, 3) := by decide +kernel
theorem dX13_no_5 : decode cX13_no 5 = .ok (.iconst 0, 1) := by decide +kernel
theorem dX13_no_6 : decode cX13_no 6 = .ok (.ireturn, 1) := by decide +kernel
def g_X13_no : Nat → EA := (t_n 2 (t_n 1 (t_l 0 (a_aload 1 0)) (t_l 1 (a_iload 1 1))) (t_n 5 (t_l 2 (a_putf 0 13 0)) (t_n 6 (t_l 5 (a_push 1 (.int 0))) (t_l 6 a_iret))))
set_option maxRecDepth 100000 in
theorem k_X13_no (d : Nat) : ∀ pc, ev_Ok cX13_no 2 [] RX13 lw_g lw_n lw_q vwCl false (ev_CO mt lw_g lw_n lw_q vwCl d) pc (g_X13_no pc) := (ok_t_n (ok_t_n (ok_t_l (ok_aload_n dX13_no_0 rfl)) (ok_t_l (ok_iload_n dX13_no_1 rfl))) (ok_t_n (ok_t_l (ok_putfield dX13_no_2 (ci := 13) (kf := 0) rfl inGX13 (by decide) tyX13_ok nmX13 rfl w_1559 rfl)) (ok_t_n (ok_t_l (ok_iconst dX13_no_5 rfl)) (ok_t_l (ok_ireturn dX13_no_6)))))
theorem dX13_isIn_0 : decode cX13_isIn 0 = .ok (.iload_n 0, 1) := by decide +kernel
theorem dX13_isIn_1 : decode cX13_isIn 1 = .ok (.iload_n 1, 1) := by decide +kernel
theorem dX13_isIn_2 : decode cX13_isIn 2 = .ok (.if_icmp .lt 12, 3) := by decide +kernel
theorem dX13_isIn_5 : decode cX13_isIn 5 = .ok (.iload_n 0, 1) := by decide +kernel
theorem dX13_isIn_6 : decode cX13_isIn 6 = .ok (.iload_n 2, 1) := by decide +kernel
theorem dX13_isIn_7 : decode cX13_isIn 7 = .ok (.if_icmp .gt 7, 3) := by decide +kernel
theorem dX13_isIn_10 : decode cX13_isIn 10 = .ok (.iconst 1, 1) := by decide +kernel
theorem dX13_isIn_11 : decode cX13_isIn 11 = .ok (.goto 4, 3) := by decide +kernel
theorem dX13_isIn_14 : decode cX13_isIn 14 = .ok (.iconst 0, 1) := by decide +kernel
theorem dX13_isIn_15 : decode cX13_isIn 15 = .ok (.ireturn, 1) := by decide +kernel
def g_X13_isIn : Nat → EA := (t_n 7 (t_n 2 (t_n 1 (t_l 0 (a_iload 1 0)) (t_l 1 (a_iload 1 1))) (t_n 5 (t_l 2 (a_ic 14 (fun x y => decide (x < y)))) (t_n 6 (t_l 5 (a_iload 1 0)) (t_l 6 (a_iload 1 2))))) (t_n 11 (t_n 10 (t_l 7 (a_ic 14 (fun x y => decide (y < x)))) (t_l 10 (a_push 1 (.int 1)))) (t_n 14 (t_l 11 (a_goto 15)) (t_n 15 (t_l 14 (a_push 1 (.int 0))) (t_l 15 a_iret)))))
set_option maxRecDepth 100000 in
theorem k_X13_isIn (d : Nat) : ∀ pc, ev_Ok cX13_isIn 3 [] RX13 lw_g lw_n lw_q vwCl false (ev_CO mt lw_g lw_n lw_q vwCl d) pc (g_X13_isIn pc) := (ok_t_n (ok_t_n (ok_t_n (ok_t_l (ok_iload_n dX13_isIn_0 rfl)) (ok_t_l (ok_iload_n dX13_isIn_1 rfl))) (ok_t_n (ok_t_l (ok_icmp_lt dX13_isIn_2 rfl)) (ok_t_n (ok_t_l (ok_iload_n dX13_isIn_5 rfl)) (ok_t_l (ok_iload_n dX13_isIn_6 rfl))))) (ok_t_n (ok_t_n (ok_t_l (ok_icmp_gt dX13_isIn_7 rfl)) (ok_t_l (ok_iconst dX13_isIn_10 rfl))) (ok_t_n (ok_t_l (ok_goto dX13_isIn_11 rfl)) (ok_t_n (ok_t_l (ok_iconst dX13_isIn_14 rfl)) (ok_t_l (ok_ireturn dX13_isIn_15))))))
theorem dX13_has_0 : decode cX13_has 0 = .ok (.iload_n 0, 1) := by decide +kernel
theorem dX13_has_1 : decode cX13_has 1 = .ok (.iload_n 1, 1) := by decide +kernel
theorem dX13_has_2 : decode cX13_has 2 = .ok (.ishr, 1) := by decide +kernel
theorem dX13_has_3 : decode cX13_has 3 = .ok (.iconst 1, 1) := by decide +kernel
theorem dX13_has_4 : decode cX13_has 4 = .ok (.iand, 1) := by decide +kernel
theorem dX13_has_5 : decode cX13_has 5 = .ok (.iconst 1, 1) := by decide +kernel
theorem dX13_has_6 : decode cX13_has 6 = .ok (.if_icmp .ne 7, 3) := by decide +kernel
theorem dX13_has_9 : decode cX13_has 9 = .ok (.iconst 1, 1) := by decide +kernel
theorem dX13_has_10 : decode cX13_has 10 = .ok (.goto 4, 3) := by decide +kernel
theorem dX13_has_13 : decode cX13_has 13 = .ok (.iconst 0, 1) := by decide +kernel
theorem dX13_has_14 : decode cX13_has 14 = .ok (.ireturn, 1) := by decide +kernel
def g_X13_has : Nat → EA := (t_n 5 (t_n 2 (t_n 1 (t_l 0 (a_iload 1 0)) (t_l 1 (a_iload 1 1))) (t_n 3 (t_l 2 (a_ii 1 (fun x y => x >>> (y &&& 31)))) (t_n 4 (t_l 3 (a_push 1 (.int 1))) (t_l 4 (a_ii 1 (fun x y => x &&& y)))))) (t_n 10 (t_n 6 (t_l 5 (a_push 1 (.int 1))) (t_n 9 (t_l 6 (a_ic 13 (fun x y => !decide (x = y)))) (t_l 9 (a_push 1 (.int 1))))) (t_n 13 (t_l 10 (a_goto 14)) (t_n 14 (t_l 13 (a_push 1 (.int 0))) (t_l 14 a_iret)))))
set_option maxRecDepth 100000 in
theorem k_X13_has (d : Nat) : ∀ pc, ev_Ok cX13_has 2 [] RX13 lw_g lw_n lw_q vwCl false (ev_CO mt lw_g lw_n lw_q vwCl d) pc (g_X13_has pc) := (ok_t_n (ok_t_n (ok_t_n (ok_t_l (ok_iload_n dX13_has_0 rfl)) (ok_t_l (ok_iload_n dX13_has_1 rfl))) (ok_t_n (ok_t_l (ok_ishr dX13_has_2)) (ok_t_n (ok_t_l (ok_iconst dX13_has_3 rfl)) (ok_t_l (ok_iand dX13_has_4))))) (ok_t_n (ok_t_n (ok_t_l (ok_iconst dX13_has_5 rfl)) (ok_t_n (ok_t_l (ok_icmp_ne dX13_has_6 rfl)) (ok_t_l (ok_iconst dX13_has_9 rfl)))) (ok_t_n (ok_t_l (ok_goto dX13_has_10 rfl)) (ok_t_n (ok_t_l (ok_iconst dX13_has_13 rfl)) (ok_t_l (ok_ireturn dX13_has_14))))))
theorem dX13_isAlign_0 : decode cX13_isAlign 0 = .ok (.iload_n 0, 1) := by decide +kernel
theorem dX13_isAlign_1 : decode cX13_isAlign 1 = .ok (.iconst 1, 1) := by decide +kernel
theorem dX13_isAlign_2 : decode cX13_isAlign 2 = .ok (.if_icmp .eq 25, 3) := by decide +kernel
theorem dX13_isAlign_5 : decode cX13_isAlign 5 = .ok (.iload_n 0, 1) := by decide +kernel
theorem dX13_isAlign_6 : decode cX13_isAlign 6 = .ok (.iconst 2, 1) := by decide +kernel
theorem dX13_isAlign_7 : decode cX13_isAlign 7 = .ok (.if_icmp .eq 20, 3) := by decide +kernel
theorem dX13_isAlign_10 : decode cX13_isAlign 10 = .ok (.iload_n 0, 1) := by decide +kernel
theorem dX13_isAlign_11 : decode cX13_isAlign 11 = .ok (.iconst 4, 1) := by decide +kernel
theorem dX13_isAlign_12 : decode cX13_isAlign 12 = .ok (.if_icmp .eq 15, 3) := by decide +kernel
theorem dX13_isAlign_15 : decode cX13_isAlign 15 = .ok (.iload_n 0, 1) := by decide +kernel
theorem dX13_isAlign_16 : decode cX13_isAlign 16 = .ok (.bipush 8, 2) := by decide +kernel
theorem dX13_isAlign_18 : decode cX13_isAlign 18 = .ok (.if_icmp .eq 9, 3) := by decide +kernel
theorem dX13_isAlign_21 : decode cX13_isAlign 21 = .ok (.iload_n 0, 1) := by decide +kernel
theorem dX13_isAlign_22 : decode cX13_isAlign 22 = .ok (.bipush 16, 2) := by decide +kernel
theorem dX13_isAlign_24 : decode cX13_isAlign 24 = .ok (.if_icmp .ne 7, 3) := by decide +kernel
theorem dX13_isAlign_27 : decode cX13_isAlign 27 = .ok (.iconst 1, 1) := by decide +kernel
theorem dX13_isAlign_28 : decode cX13_isAlign 28 = .ok (.goto 4, 3) := by decide +kernel
theorem dX13_isAlign_31 : decode cX13_isAlign 31 = .ok (.iconst 0, 1) := by decide +kernel
theorem dX13_isAlign_32 : decode cX13_isAlign 32 = .ok (.ireturn, 1) := by decide +kernel
def g_X13_isAlign : Nat → EA := (t_n 15 (t_n 6 (t_n 2 (t_n 1 (t_l 0 (a_iload 1 0)) (t_l 1 (a_push 1 (.int 1)))) (t_n 5 (t_l 2 (a_ic 27 (fun x y => decide (x = y)))) (t_l 5 (a_iload 1 0)))) (t_n 10 (t_n 7 (t_l 6 (a_push 1 (.int 2))) (t_l 7 (a_ic 27 (fun x y => decide (x = y))))) (t_n 11 (t_l 10 (a_iload 1 0)) (t_n 12 (t_l 11 (a_push 1 (.int 4))) (t_l 12 (a_ic 27 (fun x y => decide (x = y)))))))) (t_n 24 (t_n 18 (t_n 16 (t_l 15 (a_iload 1 0)) (t_l 16 (a_push 2 (.int 8)))) (t_n 21 (t_l 18 (a_ic 27 (fun x y => decide (x = y)))) (t_n 22 (t_l 21 (a_iload 1 0)) (t_l 22 (a_push 2 (.int 16)))))) (t_n 28 (t_n 27 (t_l 24 (a_ic 31 (fun x y => !decide (x = y)))) (t_l 27 (a_push 1 (.int 1)))) (t_n 31 (t_l 28 (a_goto 32)) (t_n 32 (t_l 31 (a_push 1 (.int 0))) (t_l 32 a_iret))))))
set_option maxRecDepth 100000 in
theorem k_X13_isAlign (d : Nat) : ∀ pc, ev_Ok cX13_isAlign 1 [] RX13 lw_g lw_n lw_q vwCl false (ev_CO mt lw_g lw_n lw_q vwCl d) pc (g_X13_isAlign pc) := (ok_t_n (ok_t_n (ok_t_n (ok_t_n (ok_t_l (ok_iload_n dX13_isAlign_0 rfl)) (ok_t_l (ok_iconst dX13_isAlign_1 rfl))) (ok_t_n (ok_t_l (ok_icmp_eq dX13_isAlign_2 rfl)) (ok_t_l (ok_iload_n dX13_isAlign_5 rfl)))) (ok_t_n (ok_t_n (ok_t_l (ok_iconst dX13_isAlign_6 rfl)) (ok_t_l (ok_icmp_eq dX13_isAlign_7 rfl))) (ok_t_n (ok_t_l (ok_iload_n dX13_isAlign_10 rfl)) (ok_t_n (ok_t_l (ok_iconst dX13_isAlign_11 rfl)) (ok_t_l (ok_icmp_eq dX13_isAlign_12 rfl)))))) (ok_t_n (ok_t_n (ok_t_n (ok_t_l (ok_iload_n dX13_isAlign_15 rfl)) (ok_t_l (ok_bipush dX13_isAlign_16 rfl))) (ok_t_n (ok_t_l (ok_icmp_eq dX13_isAlign_18 rfl)) (ok_t_n (ok_t_l (ok_iload_n dX13_isAlign_21 rfl)) (ok_t_l (ok_bipush dX13_isAlign_22 rfl))))) (ok_t_n (ok_t_n (ok_t_l (ok_icmp_ne dX13_isAlign_24 rfl)) (ok_t_l (ok_iconst dX13_isAlign_27 rfl))) (ok_t_n (ok_t_l (ok_goto dX13_isAlign_28 rfl)) (ok_t_n (ok_t_l (ok_iconst dX13_isAlign_31 rfl)) (ok_t_l (ok_ireturn dX13_isAlign_32)))))))
theorem dX13_isObject_0 : decode cX13_isObject 0 = .ok (.iload_n 1, 1) := by decide +kernel
theorem dX13_isObject_1 : decode cX13_isObject 1 = .ok (.iconst 0, 1) := by decide +kernel
theorem dX13_isObject_2 : decode cX13_isObject 2 = .ok (.aload_n 0, 1) := by decide +kernel
theorem dX13_isObject_3 : decode cX13_isObject 3 = .ok (.getfield 84, 3) := by decide +kernel
theorem dX13_isObject_6 : decode cX13_isObject 6 = .ok (.iconst 1, 1) := by decide +kernel
theorem dX13_isObject_7 : decode cX13_isObject 7 = .ok (.isub, 1) := by decide +kernel
theorem dX13_isObject_8 : decode cX13_isObject 8 = .ok (.invokestatic 87, 3) := by decide +kernel
theorem dX13_isObject_11 : decode cX13_isObject 11 = .ok (.ireturn, 1) := by decide +kernel
def g_X13_isObject : Nat → EA := (t_n 6 (t_n 2 (t_n 1 (t_l 0 (a_iload 1 1)) (t_l 1 (a_push 1 (.int 0)))) (t_n 3 (t_l 2 (a_aload 1 0)) (t_l 3 (a_getf 13 1)))) (t_n 8 (t_n 7 (t_l 6 (a_push 1 (.int 1))) (t_l 7 (a_ii 1 (fun x y => x - y)))) (t_n 11 (t_l 8 (a_inv true 230 3 none)) (t_l 11 a_iret))))
set_option maxRecDepth 100000 in
theorem k_X13_isObject (d : Nat) : ∀ pc, ev_Ok cX13_isObject 2 [] RX13 lw_g lw_n lw_q vwCl false (ev_CO mt lw_g lw_n lw_q vwCl d) pc (g_X13_isObject pc) := (ok_t_n (ok_t_n (ok_t_n (ok_t_l (ok_iload_n dX13_isObject_0 rfl)) (ok_t_l (ok_iconst dX13_isObject_1 rfl))) (ok_t_n (ok_t_l (ok_aload_n dX13_isObject_2 rfl)) (ok_t_l (ok_getfield dX13_isObject_3 (ci := 13) (kf := 1) rfl inGX13 (by decide) w_1561)))) (ok_t_n (ok_t_n (ok_t_l (ok_iconst dX13_isObject_6 rfl)) (ok_t_l (ok_isub dX13_isObject_7))) (ok_t_n (ok_t_l (ok_inv (run_S (y := 230) (n := 3) dX13_isObject_8 cz_230 gdG cc_230 ci_230 w_1684 cm_230 cd_230 cl_230))) (ok_t_l (ok_ireturn dX13_isObject_11)))))
theorem dX13_isSection_0 : decode cX13_isSection 0 = .ok (.iload_n 1, 1) := by decide +kernel
theorem dX13_isSection_1 : decode cX13_isSection 1 = .ok (.iconst 0, 1) := by decide +kernel
theorem dX13_isSection_2 : decode cX13_isSection 2 = .ok (.aload_n 0, 1) := by decide +kernel
theorem dX13_isSection_3 : decode cX13_isSection 3 = .ok (.getfield 91, 3) := by decide +kernel
theorem dX13_isSection_6 : decode cX13_isSection 6 = .ok (.iconst 1, 1) := by decide +kernel
theorem dX13_isSection_7 : decode cX13_isSection 7 = .ok (.isub, 1) := by decide +kernel
theorem dX13_isSection_8 : decode cX13_isSection 8 = .ok (.invokestatic 87, 3) := by decide +kernel
theorem dX13_isSection_11 : decode cX13_isSection 11 = .ok (.ireturn, 1) := by decide +kernel
def g_X13_isSection : Nat → EA := (t_n 6 (t_n 2 (t_n 1 (t_l 0 (a_iload 1 1)) (t_l 1 (a_push 1 (.int 0)))) (t_n 3 (t_l 2 (a_aload 1 0)) (t_l 3 (a_getf 13 2)))) (t_n 8 (t_n 7 (t_l 6 (a_push 1 (.int 1))) (t_l 7 (a_ii 1 (fun x y => x - y)))) (t_n 11 (t_l 8 (a_inv true 230 3 none)) (t_l 11 a_iret))))
set_option maxRecDepth 100000 in
theorem k_X13_isSection (d : Nat) : ∀ pc, ev_Ok cX13_isSection 2 [] RX13 lw_g lw_n lw_q vwCl false (ev_CO mt lw_g lw_n lw_q vwCl d) pc (g_X13_isSection pc) := (ok_t_n (ok_t_n (ok_t_n (ok_t_l (ok_iload_n dX13_isSection_0 rfl)) (ok_t_l (ok_iconst dX13_isSection_1 rfl))) (ok_t_n (ok_t_l (ok_aload_n dX13_isSection_2 rfl)) (ok_t_l (ok_getfield dX13_isSection_3 (ci := 13) (kf := 2) rfl inGX13 (by decide) w_1563)))) (ok_t_n (ok_t_n (ok_t_l (ok_iconst dX13_isSection_6 rfl)) (ok_t_l (ok_isub dX13_isSection_7))) (ok_t_n (ok_t_l (ok_inv (run_S (y := 230) (n := 3) dX13_isSection_8 cz_230 gdG cc_230 ci_230 w_1684 cm_230 cd_230 cl_230))) (ok_t_l (ok_ireturn dX13_isSection_11)))))
theorem dX13_isName_0 : decode cX13_isName 0 = .ok (.iload_n 0, 1) := by decide +kernel
theorem dX13_isName_1 : decode cX13_isName 1 = .ok (.iconst 0, 1) := by decide +kernel
theorem dX13_isName_2 : decode cX13_isName 2 = .ok (.bipush 19, 2) := by decide +kernel
theorem dX13_isName_4 : decode cX13_isName 4 = .ok (.invokestatic 87, 3) := by decide +kernel
theorem dX13_isName_7 : decode cX13_isName 7 = .ok (.ireturn, 1) := by decide +kernel
def g_X13_isName : Nat → EA := (t_n 2 (t_n 1 (t_l 0 (a_iload 1 0)) (t_l 1 (a_push 1 (.int 0)))) (t_n 4 (t_l 2 (a_push 2 (.int 19))) (t_n 7 (t_l 4 (a_inv true 230 3 none)) (t_l 7 a_iret))))
set_option maxRecDepth 100000 in
theorem k_X13_isName (d : Nat) : ∀ pc, ev_Ok cX13_isName 1 [] RX13 lw_g lw_n lw_q vwCl false (ev_CO mt lw_g lw_n lw_q vwCl d) pc (g_X13_isName pc) := (ok_t_n (ok_t_n (ok_t_l (ok_iload_n dX13_isName_0 rfl)) (ok_t_l (ok_iconst dX13_isName_1 rfl))) (ok_t_n (ok_t_l (ok_bipush dX13_isName_2 rfl)) (ok_t_n (ok_t_l (ok_inv (run_S (y := 230) (n := 3) dX13_isName_4 cz_230 gdG cc_230 ci_230 w_1684 cm_230 cd_230 cl_230))) (ok_t_l (ok_ireturn dX13_isName_7)))))
theorem dX13_object_0 : decode cX13_object 0 = .ok (.aload_n 0, 1) := by decide +kernel
theorem dX13_object_1 : decode cX13_object 1 = .ok (.iconst 0, 1) := by decide +kernel
theorem dX13_object_2 : decode cX13_object 2 = .ok (.putfield 81, 3) := by decide +kernel
theorem dX13_object_5 : decode cX13_object 5 = .ok (.aload_n 0, 1) := by decide +kernel
theorem dX13_object_6 : decode cX13_object 6 = .ok (.getfield 84, 3) := by decide +kernel
theorem dX13_object_9 : decode cX13_object 9 = .ok (.bipush 10, 2) := by decide +kernel
theorem dX13_object_11 : decode cX13_object 11 = .ok (.if_icmp .ne 11, 3) := by decide +kernel
theorem dX13_object_14 : decode cX13_object 14 = .ok (.aload_n 0, 1) := by decide +kernel
theorem dX13_object_15 : decode cX13_object 15 = .ok (.iconst 1, 1) := by decide +kernel
theorem dX13_object_16 : decode cX13_object 16 = .ok (.invokevirtual 94, 3) := by decide +kernel
theorem dX13_object_19 : decode cX13_object 19 = .ok (.goto 14, 3) := by decide +kernel
theorem dX13_object_22 : decode cX13_object 22 = .ok (.aload_n 0, 1) := by decide +kernel
theorem dX13_object_23 : decode cX13_object 23 = .ok (.dup, 1) := by decide +kernel
theorem dX13_object_24 : decode cX13_object 24 = .ok (.getfield 84, 3) := by decide +kernel
theorem dX13_object_27 : decode cX13_object 27 = .ok (.dup_x1, 1) := by decide +kernel
theorem dX13_object_28 : decode cX13_object 28 = .ok (.iconst 1, 1) := by decide +kernel
theorem dX13_object_29 : decode cX13_object 29 = .ok (.iadd, 1) := by decide +kernel
theorem dX13_object_30 : decode cX13_object 30 = .ok (.putfield 84, 3) := by decide +kernel
theorem dX13_object_33 : decode cX13_object 33 = .ok (.ireturn, 1) := by decide +kernel
def g_X13_object : Nat → EA := (t_n 16 (t_n 6 (t_n 2 (t_n 1 (t_l 0 (a_aload 1 0)) (t_l 1 (a_push 1 (.int 0)))) (t_n 5 (t_l 2 (a_putf 0 13 0)) (t_l 5 (a_aload 1 0)))) (t_n 11 (t_n 9 (t_l 6 (a_getf 13 1)) (t_l 9 (a_push 2 (.int 10)))) (t_n 14 (t_l 11 (a_ic 22 (fun x y => !decide (x = y)))) (t_n 15 (t_l 14 (a_aload 1 0)) (t_l 15 (a_push 1 (.int 1))))))) (t_n 27 (t_n 22 (t_n 19 (t_l 16 (a_inv true 229 2 (some 13))) (t_l 19 (a_goto 33))) (t_n 23 (t_l 22 (a_aload 1 0)) (t_n 24 (t_l 23 a_dup) (t_l 24 (a_getf 13 1))))) (t_n 29 (t_n 28 (t_l 27 a_dupx1) (t_l 28 (a_push 1 (.int 1)))) (t_n 30 (t_l 29 (a_ii 1 (fun x y => x + y))) (t_n 33 (t_l 30 (a_putf 0 13 1)) (t_l 33 a_iret))))))
set_option maxRecDepth 100000 in
theorem k_X13_object (d : Nat) : ∀ pc, ev_Ok cX13_object 1 [] RX13 lw_g lw_n lw_q vwCl false (ev_CO mt lw_g lw_n lw_q vwCl d) pc (g_X13_object pc) := (ok_t_n (ok_t_n (ok_t_n (ok_t_n (ok_t_l (ok_aload_n dX13_object_0 rfl)) (ok_t_l (ok_iconst dX13_object_1 rfl))) (ok_t_n (ok_t_l (ok_putfield dX13_object_2 (ci := 13) (kf := 0) rfl inGX13 (by decide) tyX13_ok nmX13 rfl w_1559 rfl)) (ok_t_l (ok_aload_n dX13_object_5 rfl)))) (ok_t_n (ok_t_n (ok_t_l (ok_getfield dX13_object_6 (ci := 13) (kf := 1) rfl inGX13 (by decide) w_1561)) (ok_t_l (ok_bipush dX13_object_9 rfl))) (ok_t_n (ok_t_l (ok_icmp_ne dX13_object_11 rfl)) (ok_t_n (ok_t_l (ok_aload_n dX13_object_14 rfl)) (ok_t_l (ok_iconst dX13_object_15 rfl)))))) (ok_t_n (ok_t_n (ok_t_n (ok_t_l (ok_inv (run_V (y := 229) (n := 1) (ci := 13) dX13_object_16 cz_229 gdG cc_229 ci_229 w_1672 cm_229 cs_229 cd_229 cl_229 rfl rfl))) (ok_t_l (ok_goto dX13_object_19 rfl))) (ok_t_n (ok_t_l (ok_aload_n dX13_object_22 rfl)) (ok_t_n (ok_t_l (ok_dup dX13_object_23)) (ok_t_l (ok_getfield dX13_object_24 (ci := 13) (kf := 1) rfl inGX13 (by decide) w_1561))))) (ok_t_n (ok_t_n (ok_t_l (ok_dup_x1 dX13_object_27)) (ok_t_l (ok_iconst dX13_object_28 rfl))) (ok_t_n (ok_t_l (ok_iadd dX13_object_29)) (ok_t_n (ok_t_l (ok_putfield dX13_object_30 (ci := 13) (kf := 1) rfl inGX13 (by decide) tyX13_ok nmX13 rfl w_1561 rfl)) (ok_t_l (ok_ireturn dX13_object_33)))))))
theorem dX13_section_0 : decode cX13_section 0 = .ok (.aload_n 0, 1) := by decide +kernel
theorem dX13_section_1 : decode cX13_section 1 = .ok (.iconst 0, 1) := by decide +kernel
theorem dX13_section_2 : decode cX13_section 2 = .ok (.putfield 81, 3) := by decide +kernel
theorem dX13_section_5 : decode cX13_section 5 = .ok (.aload_n 0, 1) := by decide +kernel
theorem dX13_section_6 : decode cX13_section 6 = .ok (.iload_n 1, 1) := by decide +kernel
theorem dX13_section_7 : decode cX13_section 7 = .ok (.invokevirtual 98, 3) := by decide +kernel
theorem dX13_section_10 : decode cX13_section 10 = .ok (.ifCond .ne 9, 3) := by decide +kernel
theorem dX13_section_13 : decode cX13_section 13 = .ok (.aload_n 0, 1) := by decide +kernel
theorem dX13_section_14 : decode cX13_section 14 = .ok (.iconst 1, 1) := by decide +kernel
theorem dX13_section_15 : decode cX13_section 15 = .ok (.invokevirtual 94, 3) := by decide +kernel
theorem dX13_section_18 : decode cX13_section 18 = .ok (.ireturn, 1) := by decide +kernel
theorem dX13_section_19 : decode cX13_section 19 = .ok (.iload_n 2, 1) := by decide +kernel
theorem dX13_section_20 : decode cX13_section 20 = .ok (.invokestatic 102, 3) := by decide +kernel
theorem dX13_section_23 : decode cX13_section 23 = .ok (.ifCond .ne 9, 3) := by decide +kernel
theorem dX13_section_26 : decode cX13_section 26 = .ok (.aload_n 0, 1) := by decide +kernel
theorem dX13_section_27 : decode cX13_section 27 = .ok (.iconst 2, 1) := by decide +kernel
theorem dX13_section_28 : decode cX13_section 28 = .ok (.invokevirtual 94, 3) := by decide +kernel
theorem dX13_section_31 : decode cX13_section 31 = .ok (.ireturn, 1) := by decide +kernel
theorem dX13_section_32 : decode cX13_section 32 = .ok (.aload_n 0, 1) := by decide +kernel
theorem dX13_section_33 : decode cX13_section 33 = .ok (.getfield 91, 3) := by decide +kernel
theorem dX13_section_36 : decode cX13_section 36 = .ok (.bipush 24, 2) := by decide +kernel
theorem dX13_section_38 : decode cX13_section 38 = .ok (.if_icmp .ne 9, 3) := by decide +kernel
theorem dX13_section_41 : decode cX13_section 41 = .ok (.aload_n 0, 1) := by decide +kernel
theorem dX13_section_42 : decode cX13_section 42 = .ok (.iconst 3, 1) := by decide +kernel
theorem dX13_section_43 : decode cX13_section 43 = .ok (.invokevirtual 94, 3) := by decide +kernel
theorem dX13_section_46 : decode cX13_section 46 = .ok (.ireturn, 1) := by decide +kernel
theorem dX13_section_47 : decode cX13_section 47 = .ok (.aload_n 0, 1) := by decide +kernel
theorem dX13_section_48 : decode cX13_section 48 = .ok (.getfield 9, 3) := by decide +kernel
theorem dX13_section_51 : decode cX13_section 51 = .ok (.aload_n 0, 1) := by decide +kernel
theorem dX13_section_52 : decode cX13_section 52 = .ok (.getfield 91, 3) := by decide +kernel
theorem dX13_section_55 : decode cX13_section 55 = .ok (.iload_n 1, 1) := by decide +kernel
theorem dX13_section_56 : decode cX13_section 56 = .ok (.iastore, 1) := by decide +kernel
theorem dX13_section_57 : decode cX13_section 57 = .ok (.aload_n 0, 1) := by decide +kernel
theorem dX13_section_58 : decode cX13_section 58 = .ok (.getfield 13, 3) := by decide +kernel
theorem dX13_section_61 : decode cX13_section 61 = .ok (.aload_n 0, 1) := by decide +kernel
theorem dX13_section_62 : decode cX13_section 62 = .ok (.getfield 91, 3) := by decide +kernel
theorem dX13_section_65 : decode cX13_section 65 = .ok (.iload_n 2, 1) := by decide +kernel
theorem dX13_section_66 : decode cX13_section 66 = .ok (.iastore, 1) := by decide +kernel
theorem dX13_section_67 : decode cX13_section 67 = .ok (.aload_n 0, 1) := by decide +kernel
theorem dX13_section_68 : decode cX13_section 68 = .ok (.getfield 19, 3) := by decide +kernel
theorem dX13_section_71 : decode cX13_section 71 = .ok (.aload_n 0, 1) := by decide +kernel
theorem dX13_section_72 : decode cX13_section 72 = .ok (.getfield 91, 3) := by decide +kernel
theorem dX13_section_75 : decode cX13_section 75 = .ok (.iload_n 3, 1) := by decide +kernel
theorem dX13_section_76 : decode cX13_section 76 = .ok (.bastore, 1) := by decide +kernel
theorem dX13_section_77 : decode cX13_section 77 = .ok (.aload_n 0, 1) := by decide +kernel
theorem dX13_section_78 : decode cX13_section 78 = .ok (.dup, 1) := by decide +kernel
theorem dX13_section_79 : decode cX13_section 79 = .ok (.getfield 91, 3) := by decide +kernel
theorem dX13_section_82 : decode cX13_section 82 = .ok (.dup_x1, 1) := by decide +kernel
theorem dX13_section_83 : decode cX13_section 83 = .ok (.iconst 1, 1) := by decide +kernel
theorem dX13_section_84 : decode cX13_section 84 = .ok (.iadd, 1) := by decide +kernel
theorem dX13_section_85 : decode cX13_section 85 = .ok (.putfield 91, 3) := by decide +kernel
theorem dX13_section_88 : decode cX13_section 88 = .ok (.ireturn, 1) := by decide +kernel
def g_X13_section : Nat → EA := (t_n 47 (t_n 23 (t_n 10 (t_n 5 (t_n 1 (t_l 0 (a_aload 1 0)) (t_n 2 (t_l 1 (a_push 1 (.int 0))) (t_l 2 (a_putf 0 13 0)))) (t_n 6 (t_l 5 (a_aload 1 0)) (t_n 7 (t_l 6 (a_iload 1 1)) (t_l 7 (a_inv true 233 2 (some 13)))))) (t_n 15 (t_n 13 (t_l 10 (a_if 19 (fun x => !decide (x = 0)))) (t_n 14 (t_l 13 (a_aload 1 0)) (t_l 14 (a_push 1 (.int 1))))) (t_n 19 (t_n 18 (t_l 15 (a_inv true 229 2 (some 13))) (t_l 18 a_iret)) (t_n 20 (t_l 19 (a_iload 1 2)) (t_l 20 (a_inv true 232 1 none)))))) (t_n 33 (t_n 28 (t_n 26 (t_l 23 (a_if 32 (fun x => !decide (x = 0)))) (t_n 27 (t_l 26 (a_aload 1 0)) (t_l 27 (a_push 1 (.int 2))))) (t_n 31 (t_l 28 (a_inv true 229 2 (some 13))) (t_n 32 (t_l 31 a_iret) (t_l 32 (a_aload 1 0))))) (t_n 41 (t_n 36 (t_l 33 (a_getf 13 2)) (t_n 38 (t_l 36 (a_push 2 (.int 24))) (t_l 38 (a_ic 47 (fun x y => !decide (x = y)))))) (t_n 43 (t_n 42 (t_l 41 (a_aload 1 0)) (t_l 42 (a_push 1 (.int 3)))) (t_n 46 (t_l 43 (a_inv true 229 2 (some 13))) (t_l 46 a_iret)))))) (t_n 68 (t_n 57 (t_n 52 (t_n 48 (t_l 47 (a_aload 1 0)) (t_n 51 (t_l 48 (a_getf 13 4)) (t_l 51 (a_aload 1 0)))) (t_n 55 (t_l 52 (a_getf 13 2)) (t_n 56 (t_l 55 (a_iload 1 1)) (t_l 56 (a_ist 0))))) (t_n 62 (t_n 58 (t_l 57 (a_aload 1 0)) (t_n 61 (t_l 58 (a_getf 13 5)) (t_l 61 (a_aload 1 0)))) (t_n 66 (t_n 65 (t_l 62 (a_getf 13 2)) (t_l 65 (a_iload 1 2))) (t_n 67 (t_l 66 (a_ist 0)) (t_l 67 (a_aload 1 0)))))) (t_n 78 (t_n 75 (t_n 71 (t_l 68 (a_getf 13 7)) (t_n 72 (t_l 71 (a_aload 1 0)) (t_l 72 (a_getf 13 2)))) (t_n 76 (t_l 75 (a_iload 1 3)) (t_n 77 (t_l 76 (a_ist 1)) (t_l 77 (a_aload 1 0))))) (t_n 83 (t_n 79 (t_l 78 a_dup) (t_n 82 (t_l 79 (a_getf 13 2)) (t_l 82 a_dupx1))) (t_n 85 (t_n 84 (t_l 83 (a_push 1 (.int 1))) (t_l 84 (a_ii 1 (fun x y => x + y)))) (t_n 88 (t_l 85 (a_putf 0 13 2)) (t_l 88 a_iret)))))))
set_option maxRecDepth 100000 in
theorem k_X13_section (d : Nat) : ∀ pc, ev_Ok cX13_section 4 [] RX13 lw_g lw_n lw_q vwCl false (ev_CO mt lw_g lw_n lw_q vwCl d) pc (g_X13_section pc) := (ok_t_n (ok_t_n (ok_t_n (ok_t_n (ok_t_n (ok_t_l (ok_aload_n dX13_section_0 rfl)) (ok_t_n (ok_t_l (ok_iconst dX13_section_1 rfl)) (ok_t_l (ok_putfield dX13_section_2 (ci := 13) (kf := 0) rfl inGX13 (by decide) tyX13_ok nmX13 rfl w_1559 rfl)))) (ok_t_n (ok_t_l (ok_aload_n dX13_section_5 rfl)) (ok_t_n (ok_t_l (ok_iload_n dX13_section_6 rfl)) (ok_t_l (ok_inv (run_V (y := 233) (n := 1) (ci := 13) dX13_section_7 cz_233 gdG cc_233 ci_233 w_1680 cm_233 cs_233 cd_233 cl_233 rfl rfl)))))) (ok_t_n (ok_t_n (ok_t_l (ok_if_ne dX13_section_10 rfl)) (ok_t_n (ok_t_l (ok_aload_n dX13_section_13 rfl)) (ok_t_l (ok_iconst dX13_section_14 rfl)))) (ok_t_n (ok_t_n (ok_t_l (ok_inv (run_V (y := 229) (n := 1) (ci := 13) dX13_section_15 cz_229 gdG cc_229 ci_229 w_1672 cm_229 cs_229 cd_229 cl_229 rfl rfl))) (ok_t_l (ok_ireturn dX13_section_18))) (ok_t_n (ok_t_l (ok_iload_n dX13_section_19 rfl)) (ok_t_l (ok_inv (run_S (y := 232) (n := 1) dX13_section_20 cz_232 gdG cc_232 ci_232 w_1687 cm_232 cd_232 cl_232))))))) (ok_t_n (ok_t_n (ok_t_n (ok_t_l (ok_if_ne dX13_section_23 rfl)) (ok_t_n (ok_t_l (ok_aload_n dX13_section_26 rfl)) (ok_t_l (ok_iconst dX13_section_27 rfl)))) (ok_t_n (ok_t_l (ok_inv (run_V (y := 229) (n := 1) (ci := 13) dX13_section_28 cz_229 gdG cc_229 ci_229 w_1672 cm_229 cs_229 cd_229 cl_229 rfl rfl))) (ok_t_n (ok_t_l (ok_ireturn dX13_section_31)) (ok_t_l (ok_aload_n dX13_section_32 rfl))))) (ok_t_n (ok_t_n (ok_t_l (ok_getfield dX13_section_33 (ci := 13) (kf := 2) rfl inGX13 (by decide) w_1563)) (ok_t_n (ok_t_l (ok_bipush dX13_section_36 rfl)) (ok_t_l (ok_icmp_ne dX13_section_38 rfl)))) (ok_t_n (ok_t_n (ok_t_l (ok_aload_n dX13_section_41 rfl)) (ok_t_l (ok_iconst dX13_section_42 rfl))) (ok_t_n (ok_t_l (ok_inv (run_V (y := 229) (n := 1) (ci := 13) dX13_section_43 cz_229 gdG cc_229 ci_229 w_1672 cm_229 cs_229 cd_229 cl_229 rfl rfl))) (ok_t_l (ok_ireturn dX13_section_46))))))) (ok_t_n (ok_t_n (ok_t_n (ok_t_n (ok_t_l (ok_aload_n dX13_section_47 rfl)) (ok_t_n (ok_t_l (ok_getfield dX13_section_48 (ci := 13) (kf := 4) rfl inGX13 (by decide) w_1566)) (ok_t_l (ok_aload_n dX13_section_51 rfl)))) (ok_t_n (ok_t_l (ok_getfield dX13_section_52 (ci := 13) (kf := 2) rfl inGX13 (by decide) w_1563)) (ok_t_n (ok_t_l (ok_iload_n dX13_section_55 rfl)) (ok_t_l (ok_iastore dX13_section_56))))) (ok_t_n (ok_t_n (ok_t_l (ok_aload_n dX13_section_57 rfl)) (ok_t_n (ok_t_l (ok_getfield dX13_section_58 (ci := 13) (kf := 5) rfl inGX13 (by decide) w_1568)) (ok_t_l (ok_aload_n dX13_section_61 rfl)))) (ok_t_n (ok_t_n (ok_t_l (ok_getfield dX13_section_62 (ci := 13) (kf := 2) rfl inGX13 (by decide) w_1563)) (ok_t_l (ok_iload_n dX13_section_65 rfl))) (ok_t_n (ok_t_l (ok_iastore dX13_section_66)) (ok_t_l (ok_aload_n dX13_section_67 rfl)))))) (ok_t_n (ok_t_n (ok_t_n (ok_t_l (ok_getfield dX13_section_68 (ci := 13) (kf := 7) rfl inGX13 (by decide) w_1572)) (ok_t_n (ok_t_l (ok_aload_n dX13_section_71 rfl)) (ok_t_l (ok_getfield dX13_section_72 (ci := 13) (kf := 2) rfl inGX13 (by decide) w_1563)))) (ok_t_n (ok_t_l (ok_iload_n dX13_section_75 rfl)) (ok_t_n (ok_t_l (ok_zastore dX13_section_76)) (ok_t_l (ok_aload_n dX13_section_77 rfl))))) (ok_t_n (ok_t_n (ok_t_l (ok_dup dX13_section_78)) (ok_t_n (ok_t_l (ok_getfield dX13_section_79 (ci := 13) (kf := 2) rfl inGX13 (by decide) w_1563)) (ok_t_l (ok_dup_x1 dX13_section_82)))) (ok_t_n (ok_t_n (ok_t_l (ok_iconst dX13_section_83 rfl)) (ok_t_l (ok_iadd dX13_section_84))) (ok_t_n (ok_t_l (ok_putfield dX13_section_85 (ci := 13) (kf := 2) rfl inGX13 (by decide) tyX13_ok nmX13 rfl w_1563 rfl)) (ok_t_l (ok_ireturn dX13_section_88))))))))
theorem dX13_add_0 : decode cX13_add 0 = .ok (.aload_n 0, 1) := by decide +kernel
theorem dX13_add_1 : decode cX13_add 1 = .ok (.getfield 16, 3) := by decide +kernel
theorem dX13_add_4 : decode cX13_add 4 = .ok (.iload_n 1, 1) := by decide +kernel
theorem dX13_add_5 : decode cX13_add 5 = .ok (.iaload, 1) := by decide +kernel
theorem dX13_add_6 : decode cX13_add 6 = .ok (.bipush 8, 2) := by decide +kernel
theorem dX13_add_8 : decode cX13_add 8 = .ok (.if_icmp .ne 9, 3) := by decide +kernel
theorem dX13_add_11 : decode cX13_add 11 = .ok (.aload_n 0, 1) := by decide +kernel
theorem dX13_add_12 : decode cX13_add 12 = .ok (.iconst 3, 1) := by decide +kernel
theorem dX13_add_13 : decode cX13_add 13 = .ok (.invokevirtual 94, 3) := by decide +kernel
theorem dX13_add_16 : decode cX13_add 16 = .ok (.ireturn, 1) := by decide +kernel
theorem dX13_add_17 : decode cX13_add 17 = .ok (.iload_n 1, 1) := by decide +kernel
theorem dX13_add_18 : decode cX13_add 18 = .ok (.bipush 8, 2) := by decide +kernel
theorem dX13_add_20 : decode cX13_add 20 = .ok (.imul, 1) := by decide +kernel
theorem dX13_add_21 : decode cX13_add 21 = .ok (.aload_n 0, 1) := by decide +kernel
theorem dX13_add_22 : decode cX13_add 22 = .ok (.getfield 16, 3) := by decide +kernel
theorem dX13_add_25 : decode cX13_add 25 = .ok (.iload_n 1, 1) := by decide +kernel
theorem dX13_add_26 : decode cX13_add 26 = .ok (.iaload, 1) := by decide +kernel
theorem dX13_add_27 : decode cX13_add 27 = .ok (.iadd, 1) := by decide +kernel
theorem dX13_add_28 : decode cX13_add 28 = .ok (.iconst 4, 1) := by decide +kernel
theorem dX13_add_29 : decode cX13_add 29 = .ok (.imul, 1) := by decide +kernel
theorem dX13_add_30 : decode cX13_add 30 = .ok (.istore 6, 2) := by decide +kernel
theorem dX13_add_32 : decode cX13_add 32 = .ok (.aload_n 0, 1) := by decide +kernel
theorem dX13_add_33 : decode cX13_add 33 = .ok (.getfield 23, 3) := by decide +kernel
theorem dX13_add_36 : decode cX13_add 36 = .ok (.iload 6, 2) := by decide +kernel
theorem dX13_add_38 : decode cX13_add 38 = .ok (.iload_n 2, 1) := by decide +kernel
theorem dX13_add_39 : decode cX13_add 39 = .ok (.iastore, 1) := by decide +kernel
theorem dX13_add_40 : decode cX13_add 40 = .ok (.aload_n 0, 1) := by decide +kernel
theorem dX13_add_41 : decode cX13_add 41 = .ok (.getfield 23, 3) := by decide +kernel
theorem dX13_add_44 : decode cX13_add 44 = .ok (.iload 6, 2) := by decide +kernel
theorem dX13_add_46 : decode cX13_add 46 = .ok (.iconst 1, 1) := by decide +kernel
theorem dX13_add_47 : decode cX13_add 47 = .ok (.iadd, 1) := by decide +kernel
theorem dX13_add_48 : decode cX13_add 48 = .ok (.iload_n 3, 1) := by decide +kernel
theorem dX13_add_49 : decode cX13_add 49 = .ok (.iastore, 1) := by decide +kernel
theorem dX13_add_50 : decode cX13_add 50 = .ok (.aload_n 0, 1) := by decide +kernel
theorem dX13_add_51 : decode cX13_add 51 = .ok (.getfield 23, 3) := by decide +kernel
theorem dX13_add_54 : decode cX13_add 54 = .ok (.iload 6, 2) := by decide +kernel
theorem dX13_add_56 : decode cX13_add 56 = .ok (.iconst 2, 1) := by decide +kernel
theorem dX13_add_57 : decode cX13_add 57 = .ok (.iadd, 1) := by decide +kernel
theorem dX13_add_58 : decode cX13_add 58 = .ok (.iload 4, 2) := by decide +kernel
theorem dX13_add_60 : decode cX13_add 60 = .ok (.iastore, 1) := by decide +kernel
theorem dX13_add_61 : decode cX13_add 61 = .ok (.aload_n 0, 1) := by decide +kernel
theorem dX13_add_62 : decode cX13_add 62 = .ok (.getfield 23, 3) := by decide +kernel
theorem dX13_add_65 : decode cX13_add 65 = .ok (.iload 6, 2) := by decide +kernel
theorem dX13_add_67 : decode cX13_add 67 = .ok (.iconst 3, 1) := by decide +kernel
theorem dX13_add_68 : decode cX13_add 68 = .ok (.iadd, 1) := by decide +kernel
theorem dX13_add_69 : decode cX13_add 69 = .ok (.iload 5, 2) := by decide +kernel
theorem dX13_add_71 : decode cX13_add 71 = .ok (.ifCond .eq 7, 3) := by decide +kernel
theorem dX13_add_74 : decode cX13_add 74 = .ok (.iconst 1, 1) := by decide +kernel
theorem dX13_add_75 : decode cX13_add 75 = .ok (.goto 4, 3) := by decide +kernel
theorem dX13_add_78 : decode cX13_add 78 = .ok (.iconst 0, 1) := by decide +kernel
theorem dX13_add_79 : decode cX13_add 79 = .ok (.iastore, 1) := by decide +kernel
theorem dX13_add_80 : decode cX13_add 80 = .ok (.aload_n 0, 1) := by decide +kernel
theorem dX13_add_81 : decode cX13_add 81 = .ok (.getfield 16, 3) := by decide +kernel
theorem dX13_add_84 : decode cX13_add 84 = .ok (.iload_n 1, 1) := by decide +kernel
theorem dX13_add_85 : decode cX13_add 85 = .ok (.dup2, 1) := by decide +kernel
theorem dX13_add_86 : decode cX13_add 86 = .ok (.iaload, 1) := by decide +kernel
theorem dX13_add_87 : decode cX13_add 87 = .ok (.dup_x2, 1) := by decide +kernel
theorem dX13_add_88 : decode cX13_add 88 = .ok (.iconst 1, 1) := by decide +kernel
theorem dX13_add_89 : decode cX13_add 89 = .ok (.iadd, 1) := by decide +kernel
theorem dX13_add_90 : decode cX13_add 90 = .ok (.iastore, 1) := by decide +kernel
theorem dX13_add_91 : decode cX13_add 91 = .ok (.ireturn, 1) := by decide +kernel
def g_X13_add : Nat → EA := (t_n 47 (t_n 25 (t_n 12 (t_n 5 (t_n 1 (t_l 0 (a_aload 1 0)) (t_n 4 (t_l 1 (a_getf 13 6)) (t_l 4 (a_iload 1 1)))) (t_n 8 (t_n 6 (t_l 5 (a_ild 0)) (t_l 6 (a_push 2 (.int 8)))) (t_n 11 (t_l 8 (a_ic 17 (fun x y => !decide (x = y)))) (t_l 11 (a_aload 1 0))))) (t_n 18 (t_n 16 (t_n 13 (t_l 12 (a_push 1 (.int 3))) (t_l 13 (a_inv true 229 2 (some 13)))) (t_n 17 (t_l 16 a_iret) (t_l 17 (a_iload 1 1)))) (t_n 21 (t_n 20 (t_l 18 (a_push 2 (.int 8))) (t_l 20 (a_ii 1 (fun x y => x * y)))) (t_n 22 (t_l 21 (a_aload 1 0)) (t_l 22 (a_getf 13 6)))))) (t_n 33 (t_n 28 (t_n 26 (t_l 25 (a_iload 1 1)) (t_n 27 (t_l 26 (a_ild 0)) (t_l 27 (a_ii 1 (fun x y => x + y))))) (t_n 30 (t_n 29 (t_l 28 (a_push 1 (.int 4))) (t_l 29 (a_ii 1 (fun x y => x * y)))) (t_n 32 (t_l 30 (a_istore 7 2 6)) (t_l 32 (a_aload 1 0))))) (t_n 40 (t_n 38 (t_n 36 (t_l 33 (a_getf 13 8)) (t_l 36 (a_iload 2 6))) (t_n 39 (t_l 38 (a_iload 1 2)) (t_l 39 (a_ist 0)))) (t_n 44 (t_n 41 (t_l 40 (a_aload 1 0)) (t_l 41 (a_getf 13 8))) (t_n 46 (t_l 44 (a_iload 2 6)) (t_l 46 (a_push 1 (.int 1)))))))) (t_n 69 (t_n 57 (t_n 50 (t_n 48 (t_l 47 (a_ii 1 (fun x y => x + y))) (t_n 49 (t_l 48 (a_iload 1 3)) (t_l 49 (a_ist 0)))) (t_n 54 (t_n 51 (t_l 50 (a_aload 1 0)) (t_l 51 (a_getf 13 8))) (t_n 56 (t_l 54 (a_iload 2 6)) (t_l 56 (a_push 1 (.int 2)))))) (t_n 62 (t_n 60 (t_n 58 (t_l 57 (a_ii 1 (fun x y => x + y))) (t_l 58 (a_iload 2 4))) (t_n 61 (t_l 60 (a_ist 0)) (t_l 61 (a_aload 1 0)))) (t_n 67 (t_n 65 (t_l 62 (a_getf 13 8)) (t_l 65 (a_iload 2 6))) (t_n 68 (t_l 67 (a_push 1 (.int 3))) (t_l 68 (a_ii 1 (fun x y => x + y))))))) (t_n 84 (t_n 78 (t_n 74 (t_n 71 (t_l 69 (a_iload 2 5)) (t_l 71 (a_if 78 (fun x => decide (x = 0))))) (t_n 75 (t_l 74 (a_push 1 (.int 1))) (t_l 75 (a_goto 79)))) (t_n 80 (t_n 79 (t_l 78 (a_push 1 (.int 0))) (t_l 79 (a_ist 0))) (t_n 81 (t_l 80 (a_aload 1 0)) (t_l 81 (a_getf 13 6))))) (t_n 88 (t_n 86 (t_n 85 (t_l 84 (a_iload 1 1)) (t_l 85 a_dup2)) (t_n 87 (t_l 86 (a_ild 0)) (t_l 87 a_dupx2))) (t_n 90 (t_n 89 (t_l 88 (a_push 1 (.int 1))) (t_l 89 (a_ii 1 (fun x y => x + y)))) (t_n 91 (t_l 90 (a_ist 0)) (t_l 91 a_iret)))))))
set_option maxRecDepth 100000 in
theorem k_X13_add (d : Nat) : ∀ pc, ev_Ok cX13_add 7 [] RX13 lw_g lw_n lw_q vwCl false (ev_CO mt lw_g lw_n lw_q vwCl d) pc (g_X13_add pc) := (ok_t_n (ok_t_n (ok_t_n (ok_t_n (ok_t_n (ok_t_l (ok_aload_n dX13_add_0 rfl)) (ok_t_n (ok_t_l (ok_getfield dX13_add_1 (ci := 13) (kf := 6) rfl inGX13 (by decide) w_1570)) (ok_t_l (ok_iload_n dX13_add_4 rfl)))) (ok_t_n (ok_t_n (ok_t_l (ok_iaload dX13_add_5)) (ok_t_l (ok_bipush dX13_add_6 rfl))) (ok_t_n (ok_t_l (ok_icmp_ne dX13_add_8 rfl)) (ok_t_l (ok_aload_n dX13_add_11 rfl))))) (ok_t_n (ok_t_n (ok_t_n (ok_t_l (ok_iconst dX13_add_12 rfl)) (ok_t_l (ok_inv (run_V (y := 229) (n := 1) (ci := 13) dX13_add_13 cz_229 gdG cc_229 ci_229 w_1672 cm_229 cs_229 cd_229 cl_229 rfl rfl)))) (ok_t_n (ok_t_l (ok_ireturn dX13_add_16)) (ok_t_l (ok_iload_n dX13_add_17 rfl)))) (ok_t_n (ok_t_n (ok_t_l (ok_bipush dX13_add_18 rfl)) (ok_t_l (ok_imul dX13_add_20))) (ok_t_n (ok_t_l (ok_aload_n dX13_add_21 rfl)) (ok_t_l (ok_getfield dX13_add_22 (ci := 13) (kf := 6) rfl inGX13 (by decide) w_1570)))))) (ok_t_n (ok_t_n (ok_t_n (ok_t_l (ok_iload_n dX13_add_25 rfl)) (ok_t_n (ok_t_l (ok_iaload dX13_add_26)) (ok_t_l (ok_iadd dX13_add_27)))) (ok_t_n (ok_t_n (ok_t_l (ok_iconst dX13_add_28 rfl)) (ok_t_l (ok_imul dX13_add_29))) (ok_t_n (ok_t_l (ok_istore dX13_add_30)) (ok_t_l (ok_aload_n dX13_add_32 rfl))))) (ok_t_n (ok_t_n (ok_t_n (ok_t_l (ok_getfield dX13_add_33 (ci := 13) (kf := 8) rfl inGX13 (by decide) w_1574)) (ok_t_l (ok_iload dX13_add_36))) (ok_t_n (ok_t_l (ok_iload_n dX13_add_38 rfl)) (ok_t_l (ok_iastore dX13_add_39)))) (ok_t_n (ok_t_n (ok_t_l (ok_aload_n dX13_add_40 rfl)) (ok_t_l (ok_getfield dX13_add_41 (ci := 13) (kf := 8) rfl inGX13 (by decide) w_1574))) (ok_t_n (ok_t_l (ok_iload dX13_add_44)) (ok_t_l (ok_iconst dX13_add_46 rfl))))))) (ok_t_n (ok_t_n (ok_t_n (ok_t_n (ok_t_l (ok_iadd dX13_add_47)) (ok_t_n (ok_t_l (ok_iload_n dX13_add_48 rfl)) (ok_t_l (ok_iastore dX13_add_49)))) (ok_t_n (ok_t_n (ok_t_l (ok_aload_n dX13_add_50 rfl)) (ok_t_l (ok_getfield dX13_add_51 (ci := 13) (kf := 8) rfl inGX13 (by decide) w_1574))) (ok_t_n (ok_t_l (ok_iload dX13_add_54)) (ok_t_l (ok_iconst dX13_add_56 rfl))))) (ok_t_n (ok_t_n (ok_t_n (ok_t_l (ok_iadd dX13_add_57)) (ok_t_l (ok_iload dX13_add_58))) (ok_t_n (ok_t_l (ok_iastore dX13_add_60)) (ok_t_l (ok_aload_n dX13_add_61 rfl)))) (ok_t_n (ok_t_n (ok_t_l (ok_getfield dX13_add_62 (ci := 13) (kf := 8) rfl inGX13 (by decide) w_1574)) (ok_t_l (ok_iload dX13_add_65))) (ok_t_n (ok_t_l (ok_iconst dX13_add_67 rfl)) (ok_t_l (ok_iadd dX13_add_68)))))) (ok_t_n (ok_t_n (ok_t_n (ok_t_n (ok_t_l (ok_iload dX13_add_69)) (ok_t_l (ok_if_eq dX13_add_71 rfl))) (ok_t_n (ok_t_l (ok_iconst dX13_add_74 rfl)) (ok_t_l (ok_goto dX13_add_75 rfl)))) (ok_t_n (ok_t_n (ok_t_l (ok_iconst dX13_add_78 rfl)) (ok_t_l (ok_iastore dX13_add_79))) (ok_t_n (ok_t_l (ok_aload_n dX13_add_80 rfl)) (ok_t_l (ok_getfield dX13_add_81 (ci := 13) (kf := 6) rfl inGX13 (by decide) w_1570))))) (ok_t_n (ok_t_n (ok_t_n (ok_t_l (ok_iload_n dX13_add_84 rfl)) (ok_t_l (ok_dup2 dX13_add_85))) (ok_t_n (ok_t_l (ok_iaload dX13_add_86)) (ok_t_l (ok_dup_x2 dX13_add_87)))) (ok_t_n (ok_t_n (ok_t_l (ok_iconst dX13_add_88 rfl)) (ok_t_l (ok_iadd dX13_add_89))) (ok_t_n (ok_t_l (ok_iastore dX13_add_90)) (ok_t_l (ok_ireturn dX13_add_91))))))))
theorem dX13_fill_0 : decode cX13_fill 0 = .ok (.aload_n 0, 1) := by decide +kernel
theorem dX13_fill_1 : decode cX13_fill 1 = .ok (.iconst 0, 1) := by decide +kernel
theorem dX13_fill_2 : decode cX13_fill 2 = .ok (.putfield 81, 3) := by decide +kernel
theorem dX13_fill_5 : decode cX13_fill 5 = .ok (.aload_n 0, 1) := by decide +kernel
theorem dX13_fill_6 : decode cX13_fill 6 = .ok (.iload_n 1, 1) := by decide +kernel
theorem dX13_fill_7 : decode cX13_fill 7 = .ok (.invokevirtual 105, 3) := by decide +kernel
theorem dX13_fill_10 : decode cX13_fill 10 = .ok (.ifCond .ne 9, 3) := by decide +kernel
theorem dX13_fill_13 : decode cX13_fill 13 = .ok (.aload_n 0, 1) := by decide +kernel
theorem dX13_fill_14 : decode cX13_fill 14 = .ok (.iconst 1, 1) := by decide +kernel
theorem dX13_fill_15 : decode cX13_fill 15 = .ok (.invokevirtual 94, 3) := by decide +kernel
theorem dX13_fill_18 : decode cX13_fill 18 = .ok (.ireturn, 1) := by decide +kernel
theorem dX13_fill_19 : decode cX13_fill 19 = .ok (.iload_n 2, 1) := by decide +kernel
theorem dX13_fill_20 : decode cX13_fill 20 = .ok (.iconst 1, 1) := by decide +kernel
theorem dX13_fill_21 : decode cX13_fill 21 = .ok (.bipush 40, 2) := by decide +kernel
theorem dX13_fill_23 : decode cX13_fill 23 = .ok (.invokestatic 87, 3) := by decide +kernel
theorem dX13_fill_26 : decode cX13_fill 26 = .ok (.ifCond .eq 15, 3) := by decide +kernel
theorem dX13_fill_29 : decode cX13_fill 29 = .ok (.aload_n 0, 1) := by decide +kernel
theorem dX13_fill_30 : decode cX13_fill 30 = .ok (.iload_n 1, 1) := by decide +kernel
theorem dX13_fill_31 : decode cX13_fill 31 = .ok (.iconst 0, 1) := by decide +kernel
theorem dX13_fill_32 : decode cX13_fill 32 = .ok (.iload_n 2, 1) := by decide +kernel
theorem dX13_fill_33 : decode cX13_fill 33 = .ok (.iconst 0, 1) := by decide +kernel
theorem dX13_fill_34 : decode cX13_fill 34 = .ok (.iconst 0, 1) := by decide +kernel
theorem dX13_fill_35 : decode cX13_fill 35 = .ok (.invokevirtual 108, 3) := by decide +kernel
theorem dX13_fill_38 : decode cX13_fill 38 = .ok (.goto 8, 3) := by decide +kernel
theorem dX13_fill_41 : decode cX13_fill 41 = .ok (.aload_n 0, 1) := by decide +kernel
theorem dX13_fill_42 : decode cX13_fill 42 = .ok (.iconst 2, 1) := by decide +kernel
theorem dX13_fill_43 : decode cX13_fill 43 = .ok (.invokevirtual 94, 3) := by decide +kernel
theorem dX13_fill_46 : decode cX13_fill 46 = .ok (.ireturn, 1) := by decide +kernel
def g_X13_fill : Nat → EA := (t_n 23 (t_n 13 (t_n 5 (t_n 1 (t_l 0 (a_aload 1 0)) (t_n 2 (t_l 1 (a_push 1 (.int 0))) (t_l 2 (a_putf 0 13 0)))) (t_n 7 (t_n 6 (t_l 5 (a_aload 1 0)) (t_l 6 (a_iload 1 1))) (t_n 10 (t_l 7 (a_inv true 234 2 (some 13))) (t_l 10 (a_if 19 (fun x => !decide (x = 0))))))) (t_n 18 (t_n 14 (t_l 13 (a_aload 1 0)) (t_n 15 (t_l 14 (a_push 1 (.int 1))) (t_l 15 (a_inv true 229 2 (some 13))))) (t_n 20 (t_n 19 (t_l 18 a_iret) (t_l 19 (a_iload 1 2))) (t_n 21 (t_l 20 (a_push 1 (.int 1))) (t_l 21 (a_push 2 (.int 40))))))) (t_n 34 (t_n 30 (t_n 26 (t_l 23 (a_inv true 230 3 none)) (t_n 29 (t_l 26 (a_if 41 (fun x => decide (x = 0)))) (t_l 29 (a_aload 1 0)))) (t_n 32 (t_n 31 (t_l 30 (a_iload 1 1)) (t_l 31 (a_push 1 (.int 0)))) (t_n 33 (t_l 32 (a_iload 1 2)) (t_l 33 (a_push 1 (.int 0)))))) (t_n 41 (t_n 35 (t_l 34 (a_push 1 (.int 0))) (t_n 38 (t_l 35 (a_inv true 238 6 (some 13))) (t_l 38 (a_goto 46)))) (t_n 43 (t_n 42 (t_l 41 (a_aload 1 0)) (t_l 42 (a_push 1 (.int 2)))) (t_n 46 (t_l 43 (a_inv true 229 2 (some 13))) (t_l 46 a_iret))))))
set_option maxRecDepth 100000 in
theorem k_X13_fill (d : Nat) : ∀ pc, ev_Ok cX13_fill 3 [] RX13 lw_g lw_n lw_q vwCl false (ev_CO mt lw_g lw_n lw_q vwCl d) pc (g_X13_fill pc) := (ok_t_n (ok_t_n (ok_t_n (ok_t_n (ok_t_l (ok_aload_n dX13_fill_0 rfl)) (ok_t_n (ok_t_l (ok_iconst dX13_fill_1 rfl)) (ok_t_l (ok_putfield dX13_fill_2 (ci := 13) (kf := 0) rfl inGX13 (by decide) tyX13_ok nmX13 rfl w_1559 rfl)))) (ok_t_n (ok_t_n (ok_t_l (ok_aload_n dX13_fill_5 rfl)) (ok_t_l (ok_iload_n dX13_fill_6 rfl))) (ok_t_n (ok_t_l (ok_inv (run_V (y := 234) (n := 1) (ci := 13) dX13_fill_7 cz_234 gdG cc_234 ci_234 w_1694 cm_234 cs_234 cd_234 cl_234 rfl rfl))) (ok_t_l (ok_if_ne dX13_fill_10 rfl))))) (ok_t_n (ok_t_n (ok_t_l (ok_aload_n dX13_fill_13 rfl)) (ok_t_n (ok_t_l (ok_iconst dX13_fill_14 rfl)) (ok_t_l (ok_inv (run_V (y := 229) (n := 1) (ci := 13) dX13_fill_15 cz_229 gdG cc_229 ci_229 w_1672 cm_229 cs_229 cd_229 cl_229 rfl rfl))))) (ok_t_n (ok_t_n (ok_t_l (ok_ireturn dX13_fill_18)) (ok_t_l (ok_iload_n dX13_fill_19 rfl))) (ok_t_n (ok_t_l (ok_iconst dX13_fill_20 rfl)) (ok_t_l (ok_bipush dX13_fill_21 rfl)))))) (ok_t_n (ok_t_n (ok_t_n (ok_t_l (ok_inv (run_S (y := 230) (n := 3) dX13_fill_23 cz_230 gdG cc_230 ci_230 w_1684 cm_230 cd_230 cl_230))) (ok_t_n (ok_t_l (ok_if_eq dX13_fill_26 rfl)) (ok_t_l (ok_aload_n dX13_fill_29 rfl)))) (ok_t_n (ok_t_n (ok_t_l (ok_iload_n dX13_fill_30 rfl)) (ok_t_l (ok_iconst dX13_fill_31 rfl))) (ok_t_n (ok_t_l (ok_iload_n dX13_fill_32 rfl)) (ok_t_l (ok_iconst dX13_fill_33 rfl))))) (ok_t_n (ok_t_n (ok_t_l (ok_iconst dX13_fill_34 rfl)) (ok_t_n (ok_t_l (ok_inv (run_V (y := 238) (n := 5) (ci := 13) dX13_fill_35 cz_238 gdG cc_238 ci_238 w_1698 cm_238 cs_238 cd_238 cl_238 rfl rfl))) (ok_t_l (ok_goto dX13_fill_38 rfl)))) (ok_t_n (ok_t_n (ok_t_l (ok_aload_n dX13_fill_41 rfl)) (ok_t_l (ok_iconst dX13_fill_42 rfl))) (ok_t_n (ok_t_l (ok_inv (run_V (y := 229) (n := 1) (ci := 13) dX13_fill_43 cz_229 gdG cc_229 ci_229 w_1672 cm_229 cs_229 cd_229 cl_229 rfl rfl))) (ok_t_l (ok_ireturn dX13_fill_46)))))))
theorem dX13_word_0 : decode cX13_word 0 = .ok (.aload_n 0, 1) := by decide +kernel
theorem dX13_word_1 : decode cX13_word 1 = .ok (.iconst 0, 1) := by decide +kernel
theorem dX13_word_2 : decode cX13_word 2 = .ok (.putfield 81, 3) := by decide +kernel
theorem dX13_word_5 : decode cX13_word 5 = .ok (.aload_n 0, 1) := by decide +kernel
theorem dX13_word_6 : decode cX13_word 6 = .ok (.iload_n 1, 1) := by decide +kernel
theorem dX13_word_7 : decode cX13_word 7 = .ok (.invokevirtual 105, 3) := by decide +kernel
theorem dX13_word_10 : decode cX13_word 10 = .ok (.ifCond .ne 9, 3) := by decide +kernel
theorem dX13_word_13 : decode cX13_word 13 = .ok (.aload_n 0, 1) := by decide +kernel
theorem dX13_word_14 : decode cX13_word 14 = .ok (.iconst 1, 1) := by decide +kernel
theorem dX13_word_15 : decode cX13_word 15 = .ok (.invokevirtual 94, 3) := by decide +kernel
theorem dX13_word_18 : decode cX13_word 18 = .ok (.ireturn, 1) := by decide +kernel
theorem dX13_word_19 : decode cX13_word 19 = .ok (.iload_n 2, 1) := by decide +kernel
theorem dX13_word_20 : decode cX13_word 20 = .ok (.invokestatic 112, 3) := by decide +kernel
theorem dX13_word_23 : decode cX13_word 23 = .ok (.ifCond .eq 27, 3) := by decide +kernel
theorem dX13_word_26 : decode cX13_word 26 = .ok (.iload_n 3, 1) := by decide +kernel
theorem dX13_word_27 : decode cX13_word 27 = .ok (.bipush (-50), 2) := by decide +kernel
theorem dX13_word_29 : decode cX13_word 29 = .ok (.bipush 50, 2) := by decide +kernel
theorem dX13_word_31 : decode cX13_word 31 = .ok (.invokestatic 87, 3) := by decide +kernel
theorem dX13_word_34 : decode cX13_word 34 = .ok (.ifCond .eq 16, 3) := by decide +kernel
theorem dX13_word_37 : decode cX13_word 37 = .ok (.aload_n 0, 1) := by decide +kernel
theorem dX13_word_38 : decode cX13_word 38 = .ok (.iload_n 1, 1) := by decide +kernel
theorem dX13_word_39 : decode cX13_word 39 = .ok (.iconst 1, 1) := by decide +kernel
theorem dX13_word_40 : decode cX13_word 40 = .ok (.iload_n 2, 1) := by decide +kernel
theorem dX13_word_41 : decode cX13_word 41 = .ok (.iload_n 3, 1) := by decide +kernel
theorem dX13_word_42 : decode cX13_word 42 = .ok (.iload 4, 2) := by decide +kernel
theorem dX13_word_44 : decode cX13_word 44 = .ok (.invokevirtual 108, 3) := by decide +kernel
theorem dX13_word_47 : decode cX13_word 47 = .ok (.goto 8, 3) := by decide +kernel
theorem dX13_word_50 : decode cX13_word 50 = .ok (.aload_n 0, 1) := by decide +kernel
theorem dX13_word_51 : decode cX13_word 51 = .ok (.iconst 2, 1) := by decide +kernel
theorem dX13_word_52 : decode cX13_word 52 = .ok (.invokevirtual 94, 3) := by decide +kernel
theorem dX13_word_55 : decode cX13_word 55 = .ok (.ireturn, 1) := by decide +kernel
def g_X13_word : Nat → EA := (t_n 27 (t_n 13 (t_n 5 (t_n 1 (t_l 0 (a_aload 1 0)) (t_n 2 (t_l 1 (a_push 1 (.int 0))) (t_l 2 (a_putf 0 13 0)))) (t_n 7 (t_n 6 (t_l 5 (a_aload 1 0)) (t_l 6 (a_iload 1 1))) (t_n 10 (t_l 7 (a_inv true 234 2 (some 13))) (t_l 10 (a_if 19 (fun x => !decide (x = 0))))))) (t_n 19 (t_n 15 (t_n 14 (t_l 13 (a_aload 1 0)) (t_l 14 (a_push 1 (.int 1)))) (t_n 18 (t_l 15 (a_inv true 229 2 (some 13))) (t_l 18 a_iret))) (t_n 23 (t_n 20 (t_l 19 (a_iload 1 2)) (t_l 20 (a_inv true 235 1 none))) (t_n 26 (t_l 23 (a_if 50 (fun x => decide (x = 0)))) (t_l 26 (a_iload 1 3)))))) (t_n 41 (t_n 37 (t_n 31 (t_n 29 (t_l 27 (a_push 2 (.int (-50)))) (t_l 29 (a_push 2 (.int 50)))) (t_n 34 (t_l 31 (a_inv true 230 3 none)) (t_l 34 (a_if 50 (fun x => decide (x = 0)))))) (t_n 39 (t_n 38 (t_l 37 (a_aload 1 0)) (t_l 38 (a_iload 1 1))) (t_n 40 (t_l 39 (a_push 1 (.int 1))) (t_l 40 (a_iload 1 2))))) (t_n 50 (t_n 44 (t_n 42 (t_l 41 (a_iload 1 3)) (t_l 42 (a_iload 2 4))) (t_n 47 (t_l 44 (a_inv true 238 6 (some 13))) (t_l 47 (a_goto 55)))) (t_n 52 (t_n 51 (t_l 50 (a_aload 1 0)) (t_l 51 (a_push 1 (.int 2)))) (t_n 55 (t_l 52 (a_inv true 229 2 (some 13))) (t_l 55 a_iret))))))
set_option maxRecDepth 100000 in
theorem k_X13_word (d : Nat) : ∀ pc, ev_Ok cX13_word 5 [] RX13 lw_g lw_n lw_q vwCl false (ev_CO mt lw_g lw_n lw_q vwCl d) pc (g_X13_word pc) := (ok_t_n (ok_t_n (ok_t_n (ok_t_n (ok_t_l (ok_aload_n dX13_word_0 rfl)) (ok_t_n (ok_t_l (ok_iconst dX13_word_1 rfl)) (ok_t_l (ok_putfield dX13_word_2 (ci := 13) (kf := 0) rfl inGX13 (by decide) tyX13_ok nmX13 rfl w_1559 rfl)))) (ok_t_n (ok_t_n (ok_t_l (ok_aload_n dX13_word_5 rfl)) (ok_t_l (ok_iload_n dX13_word_6 rfl))) (ok_t_n (ok_t_l (ok_inv (run_V (y := 234) (n := 1) (ci := 13) dX13_word_7 cz_234 gdG cc_234 ci_234 w_1694 cm_234 cs_234 cd_234 cl_234 rfl rfl))) (ok_t_l (ok_if_ne dX13_word_10 rfl))))) (ok_t_n (ok_t_n (ok_t_n (ok_t_l (ok_aload_n dX13_word_13 rfl)) (ok_t_l (ok_iconst dX13_word_14 rfl))) (ok_t_n (ok_t_l (ok_inv (run_V (y := 229) (n := 1) (ci := 13) dX13_word_15 cz_229 gdG cc_229 ci_229 w_1672 cm_229 cs_229 cd_229 cl_229 rfl rfl))) (ok_t_l (ok_ireturn dX13_word_18)))) (ok_t_n (ok_t_n (ok_t_l (ok_iload_n dX13_word_19 rfl)) (ok_t_l (ok_inv (run_S (y := 235) (n := 1) dX13_word_20 cz_235 gdG cc_235 ci_235 w_1706 cm_235 cd_235 cl_235)))) (ok_t_n (ok_t_l (ok_if_eq dX13_word_23 rfl)) (ok_t_l (ok_iload_n dX13_word_26 rfl)))))) (ok_t_n (ok_t_n (ok_t_n (ok_t_n (ok_t_l (ok_bipush dX13_word_27 rfl)) (ok_t_l (ok_bipush dX13_word_29 rfl))) (ok_t_n (ok_t_l (ok_inv (run_S (y := 230) (n := 3) dX13_word_31 cz_230 gdG cc_230 ci_230 w_1684 cm_230 cd_230 cl_230))) (ok_t_l (ok_if_eq dX13_word_34 rfl)))) (ok_t_n (ok_t_n (ok_t_l (ok_aload_n dX13_word_37 rfl)) (ok_t_l (ok_iload_n dX13_word_38 rfl))) (ok_t_n (ok_t_l (ok_iconst dX13_word_39 rfl)) (ok_t_l (ok_iload_n dX13_word_40 rfl))))) (ok_t_n (ok_t_n (ok_t_n (ok_t_l (ok_iload_n dX13_word_41 rfl)) (ok_t_l (ok_iload dX13_word_42))) (ok_t_n (ok_t_l (ok_inv (run_V (y := 238) (n := 5) (ci := 13) dX13_word_44 cz_238 gdG cc_238 ci_238 w_1698 cm_238 cs_238 cd_238 cl_238 rfl rfl))) (ok_t_l (ok_goto dX13_word_47 rfl)))) (ok_t_n (ok_t_n (ok_t_l (ok_aload_n dX13_word_50 rfl)) (ok_t_l (ok_iconst dX13_word_51 rfl))) (ok_t_n (ok_t_l (ok_inv (run_V (y := 229) (n := 1) (ci := 13) dX13_word_52 cz_229 gdG cc_229 ci_229 w_1672 cm_229 cs_229 cd_229 cl_229 rfl rfl))) (ok_t_l (ok_ireturn dX13_word_55)))))))
theorem dX13_jump_0 : decode cX13_jump 0 = .ok (.aload_n 0, 1) := by decide +kernel
theorem dX13_jump_1 : decode cX13_jump 1 = .ok (.iconst 0, 1) := by decide +kernel
theorem dX13_jump_2 : decode cX13_jump 2 = .ok (.putfield 81, 3) := by decide +kernel
theorem dX13_jump_5 : decode cX13_jump 5 = .ok (.aload_n 0, 1) := by decide +kernel
theorem dX13_jump_6 : decode cX13_jump 6 = .ok (.iload_n 1, 1) := by decide +kernel
theorem dX13_jump_7 : decode cX13_jump 7 = .ok (.invokevirtual 105, 3) := by decide +kernel
theorem dX13_jump_10 : decode cX13_jump 10 = .ok (.ifCond .ne 9, 3) := by decide +kernel
theorem dX13_jump_13 : decode cX13_jump 13 = .ok (.aload_n 0, 1) := by decide +kernel
theorem dX13_jump_14 : decode cX13_jump 14 = .ok (.iconst 1, 1) := by decide +kernel
theorem dX13_jump_15 : decode cX13_jump 15 = .ok (.invokevirtual 94, 3) := by decide +kernel
theorem dX13_jump_18 : decode cX13_jump 18 = .ok (.ireturn, 1) := by decide +kernel
theorem dX13_jump_19 : decode cX13_jump 19 = .ok (.iload_n 2, 1) := by decide +kernel
theorem dX13_jump_20 : decode cX13_jump 20 = .ok (.invokestatic 112, 3) := by decide +kernel
theorem dX13_jump_23 : decode cX13_jump 23 = .ok (.ifCond .eq 15, 3) := by decide +kernel
theorem dX13_jump_26 : decode cX13_jump 26 = .ok (.aload_n 0, 1) := by decide +kernel
theorem dX13_jump_27 : decode cX13_jump 27 = .ok (.iload_n 1, 1) := by decide +kernel
theorem dX13_jump_28 : decode cX13_jump 28 = .ok (.iconst 2, 1) := by decide +kernel
theorem dX13_jump_29 : decode cX13_jump 29 = .ok (.iload_n 2, 1) := by decide +kernel
theorem dX13_jump_30 : decode cX13_jump 30 = .ok (.iconst 0, 1) := by decide +kernel
theorem dX13_jump_31 : decode cX13_jump 31 = .ok (.iload_n 3, 1) := by decide +kernel
theorem dX13_jump_32 : decode cX13_jump 32 = .ok (.invokevirtual 108, 3) := by decide +kernel
theorem dX13_jump_35 : decode cX13_jump 35 = .ok (.goto 8, 3) := by decide +kernel
theorem dX13_jump_38 : decode cX13_jump 38 = .ok (.aload_n 0, 1) := by decide +kernel
theorem dX13_jump_39 : decode cX13_jump 39 = .ok (.iconst 2, 1) := by decide +kernel
theorem dX13_jump_40 : decode cX13_jump 40 = .ok (.invokevirtual 94, 3) := by decide +kernel
theorem dX13_jump_43 : decode cX13_jump 43 = .ok (.ireturn, 1) := by decide +kernel
def g_X13_jump : Nat → EA := (t_n 23 (t_n 10 (t_n 5 (t_n 1 (t_l 0 (a_aload 1 0)) (t_n 2 (t_l 1 (a_push 1 (.int 0))) (t_l 2 (a_putf 0 13 0)))) (t_n 6 (t_l 5 (a_aload 1 0)) (t_n 7 (t_l 6 (a_iload 1 1)) (t_l 7 (a_inv true 234 2 (some 13)))))) (t_n 15 (t_n 13 (t_l 10 (a_if 19 (fun x => !decide (x = 0)))) (t_n 14 (t_l 13 (a_aload 1 0)) (t_l 14 (a_push 1 (.int 1))))) (t_n 19 (t_n 18 (t_l 15 (a_inv true 229 2 (some 13))) (t_l 18 a_iret)) (t_n 20 (t_l 19 (a_iload 1 2)) (t_l 20 (a_inv true 235 1 none)))))) (t_n 31 (t_n 28 (t_n 26 (t_l 23 (a_if 38 (fun x => decide (x = 0)))) (t_n 27 (t_l 26 (a_aload 1 0)) (t_l 27 (a_iload 1 1)))) (t_n 29 (t_l 28 (a_push 1 (.int 2))) (t_n 30 (t_l 29 (a_iload 1 2)) (t_l 30 (a_push 1 (.int 0)))))) (t_n 38 (t_n 32 (t_l 31 (a_iload 1 3)) (t_n 35 (t_l 32 (a_inv true 238 6 (some 13))) (t_l 35 (a_goto 43)))) (t_n 40 (t_n 39 (t_l 38 (a_aload 1 0)) (t_l 39 (a_push 1 (.int 2)))) (t_n 43 (t_l 40 (a_inv true 229 2 (some 13))) (t_l 43 a_iret))))))
set_option maxRecDepth 100000 in
theorem k_X13_jump (d : Nat) : ∀ pc, ev_Ok cX13_jump 4 [] RX13 lw_g lw_n lw_q vwCl false (ev_CO mt lw_g lw_n lw_q vwCl d) pc (g_X13_jump pc) := (ok_t_n (ok_t_n (ok_t_n (ok_t_n (ok_t_l (ok_aload_n dX13_jump_0 rfl)) (ok_t_n (ok_t_l (ok_iconst dX13_jump_1 rfl)) (ok_t_l (ok_putfield dX13_jump_2 (ci := 13) (kf := 0) rfl inGX13 (by decide) tyX13_ok nmX13 rfl w_1559 rfl)))) (ok_t_n (ok_t_l (ok_aload_n dX13_jump_5 rfl)) (ok_t_n (ok_t_l (ok_iload_n dX13_jump_6 rfl)) (ok_t_l (ok_inv (run_V (y := 234) (n := 1) (ci := 13) dX13_jump_7 cz_234 gdG cc_234 ci_234 w_1694 cm_234 cs_234 cd_234 cl_234 rfl rfl)))))) (ok_t_n (ok_t_n (ok_t_l (ok_if_ne dX13_jump_10 rfl)) (ok_t_n (ok_t_l (ok_aload_n dX13_jump_13 rfl)) (ok_t_l (ok_iconst dX13_jump_14 rfl)))) (ok_t_n (ok_t_n (ok_t_l (ok_inv (run_V (y := 229) (n := 1) (ci := 13) dX13_jump_15 cz_229 gdG cc_229 ci_229 w_1672 cm_229 cs_229 cd_229 cl_229 rfl rfl))) (ok_t_l (ok_ireturn dX13_jump_18))) (ok_t_n (ok_t_l (ok_iload_n dX13_jump_19 rfl)) (ok_t_l (ok_inv (run_S (y := 235) (n := 1) dX13_jump_20 cz_235 gdG cc_235 ci_235 w_1706 cm_235 cd_235 cl_235))))))) (ok_t_n (ok_t_n (ok_t_n (ok_t_l (ok_if_eq dX13_jump_23 rfl)) (ok_t_n (ok_t_l (ok_aload_n dX13_jump_26 rfl)) (ok_t_l (ok_iload_n dX13_jump_27 rfl)))) (ok_t_n (ok_t_l (ok_iconst dX13_jump_28 rfl)) (ok_t_n (ok_t_l (ok_iload_n dX13_jump_29 rfl)) (ok_t_l (ok_iconst dX13_jump_30 rfl))))) (ok_t_n (ok_t_n (ok_t_l (ok_iload_n dX13_jump_31 rfl)) (ok_t_n (ok_t_l (ok_inv (run_V (y := 238) (n := 5) (ci := 13) dX13_jump_32 cz_238 gdG cc_238 ci_238 w_1698 cm_238 cs_238 cd_238 cl_238 rfl rfl))) (ok_t_l (ok_goto dX13_jump_35 rfl)))) (ok_t_n (ok_t_n (ok_t_l (ok_aload_n dX13_jump_38 rfl)) (ok_t_l (ok_iconst dX13_jump_39 rfl))) (ok_t_n (ok_t_l (ok_inv (run_V (y := 229) (n := 1) (ci := 13) dX13_jump_40 cz_229 gdG cc_229 ci_229 w_1672 cm_229 cs_229 cd_229 cl_229 rfl rfl))) (ok_t_l (ok_ireturn dX13_jump_43)))))))
theorem dX13_defineNow_0 : decode cX13_defineNow 0 = .ok (.iload_n 1, 1) := by decide +kernel
theorem dX13_defineNow_1 : decode cX13_defineNow 1 = .ok (.bipush 20, 2) := by decide +kernel
theorem dX13_defineNow_3 : decode cX13_defineNow 3 = .ok (.imul, 1) := by decide +kernel
theorem dX13_defineNow_4 : decode cX13_defineNow 4 = .ok (.iload_n 2, 1) := by decide +kernel
theorem dX13_defineNow_5 : decode cX13_defineNow 5 = .ok (.iadd, 1) := by decide +kernel
theorem dX13_defineNow_6 : decode cX13_defineNow 6 = .ok (.istore 7, 2) := by decide +kernel
theorem dX13_defineNow_8 : decode cX13_defineNow 8 = .ok (.aload_n 0, 1) := by decide +kernel
theorem dX13_defineNow_9 : decode cX13_defineNow 9 = .ok (.getfield 26, 3) := by decide +kernel
theorem dX13_defineNow_12 : decode cX13_defineNow 12 = .ok (.iload 7, 2) := by decide +kernel
theorem dX13_defineNow_14 : decode cX13_defineNow 14 = .ok (.iaload, 1) := by decide +kernel
theorem dX13_defineNow_15 : decode cX13_defineNow 15 = .ok (.ifCond .le 9, 3) := by decide +kernel
theorem dX13_defineNow_18 : decode cX13_defineNow 18 = .ok (.aload_n 0, 1) := by decide +kernel
theorem dX13_defineNow_19 : decode cX13_defineNow 19 = .ok (.iconst 3, 1) := by decide +kernel
theorem dX13_defineNow_20 : decode cX13_defineNow 20 = .ok (.invokevirtual 94, 3) := by decide +kernel
theorem dX13_defineNow_23 : decode cX13_defineNow 23 = .ok (.ireturn, 1) := by decide +kernel
theorem dX13_defineNow_24 : decode cX13_defineNow 24 = .ok (.aload_n 0, 1) := by decide +kernel
theorem dX13_defineNow_25 : decode cX13_defineNow 25 = .ok (.getfield 26, 3) := by decide +kernel
theorem dX13_defineNow_28 : decode cX13_defineNow 28 = .ok (.iload 7, 2) := by decide +kernel
theorem dX13_defineNow_30 : decode cX13_defineNow 30 = .ok (.iload_n 3, 1) := by decide +kernel
theorem dX13_defineNow_31 : decode cX13_defineNow 31 = .ok (.iastore, 1) := by decide +kernel
theorem dX13_defineNow_32 : decode cX13_defineNow 32 = .ok (.aload_n 0, 1) := by decide +kernel
theorem dX13_defineNow_33 : decode cX13_defineNow 33 = .ok (.getfield 29, 3) := by decide +kernel
theorem dX13_defineNow_36 : decode cX13_defineNow 36 = .ok (.iload 7, 2) := by decide +kernel
theorem dX13_defineNow_38 : decode cX13_defineNow 38 = .ok (.iload 4, 2) := by decide +kernel
theorem dX13_defineNow_40 : decode cX13_defineNow 40 = .ok (.iastore, 1) := by decide +kernel
theorem dX13_defineNow_41 : decode cX13_defineNow 41 = .ok (.aload_n 0, 1) := by decide +kernel
theorem dX13_defineNow_42 : decode cX13_defineNow 42 = .ok (.getfield 32, 3) := by decide +kernel
theorem dX13_defineNow_45 : decode cX13_defineNow 45 = .ok (.iload 7, 2) := by decide +kernel
theorem dX13_defineNow_47 : decode cX13_defineNow 47 = .ok (.iload 5, 2) := by decide +kernel
theorem dX13_defineNow_49 : decode cX13_defineNow 49 = .ok (.iastore, 1) := by decide +kernel
theorem dX13_defineNow_50 : decode cX13_defineNow 50 = .ok (.aload_n 0, 1) := by decide +kernel
theorem dX13_defineNow_51 : decode cX13_defineNow 51 = .ok (.getfield 35, 3) := by decide +kernel
theorem dX13_defineNow_54 : decode cX13_defineNow 54 = .ok (.iload 7, 2) := by decide +kernel
theorem dX13_defineNow_56 : decode cX13_defineNow 56 = .ok (.iload 6, 2) := by decide +kernel
theorem dX13_defineNow_58 : decode cX13_defineNow 58 = .ok (.bastore, 1) := by decide +kernel
theorem dX13_defineNow_59 : decode cX13_defineNow 59 = .ok (.iload 5, 2) := by decide +kernel
theorem dX13_defineNow_61 : decode cX13_defineNow 61 = .ok (.ireturn, 1) := by decide +kernel
def g_X13_defineNow : Nat → EA := (t_n 30 (t_n 14 (t_n 5 (t_n 3 (t_n 1 (t_l 0 (a_iload 1 1)) (t_l 1 (a_push 2 (.int 20)))) (t_n 4 (t_l 3 (a_ii 1 (fun x y => x * y))) (t_l 4 (a_iload 1 2)))) (t_n 8 (t_n 6 (t_l 5 (a_ii 1 (fun x y => x + y))) (t_l 6 (a_istore 8 2 7))) (t_n 9 (t_l 8 (a_aload 1 0)) (t_n 12 (t_l 9 (a_getf 13 9)) (t_l 12 (a_iload 2 7)))))) (t_n 20 (t_n 18 (t_n 15 (t_l 14 (a_ild 0)) (t_l 15 (a_if 24 (fun x => decide (x ≤ 0))))) (t_n 19 (t_l 18 (a_aload 1 0)) (t_l 19 (a_push 1 (.int 3))))) (t_n 24 (t_n 23 (t_l 20 (a_inv true 229 2 (some 13))) (t_l 23 a_iret)) (t_n 25 (t_l 24 (a_aload 1 0)) (t_n 28 (t_l 25 (a_getf 13 9)) (t_l 28 (a_iload 2 7))))))) (t_n 45 (t_n 36 (t_n 32 (t_n 31 (t_l 30 (a_iload 1 3)) (t_l 31 (a_ist 0))) (t_n 33 (t_l 32 (a_aload 1 0)) (t_l 33 (a_getf 13 10)))) (t_n 40 (t_n 38 (t_l 36 (a_iload 2 7)) (t_l 38 (a_iload 2 4))) (t_n 41 (t_l 40 (a_ist 0)) (t_n 42 (t_l 41 (a_aload 1 0)) (t_l 42 (a_getf 13 11)))))) (t_n 54 (t_n 49 (t_n 47 (t_l 45 (a_iload 2 7)) (t_l 47 (a_iload 2 5))) (t_n 50 (t_l 49 (a_ist 0)) (t_n 51 (t_l 50 (a_aload 1 0)) (t_l 51 (a_getf 13 12))))) (t_n 58 (t_n 56 (t_l 54 (a_iload 2 7)) (t_l 56 (a_iload 2 6))) (t_n 59 (t_l 58 (a_ist 1)) (t_n 61 (t_l 59 (a_iload 2 5)) (t_l 61 a_iret)))))))
set_option maxRecDepth 100000 in
theorem k_X13_defineNow (d : Nat) : ∀ pc, ev_Ok cX13_defineNow 8 [] RX13 lw_g lw_n lw_q vwCl false (ev_CO mt lw_g lw_n lw_q vwCl d) pc (g_X13_defineNow pc) := (ok_t_n (ok_t_n (ok_t_n (ok_t_n (ok_t_n (ok_t_l (ok_iload_n dX13_defineNow_0 rfl)) (ok_t_l (ok_bipush dX13_defineNow_1 rfl))) (ok_t_n (ok_t_l (ok_imul dX13_defineNow_3)) (ok_t_l (ok_iload_n dX13_defineNow_4 rfl)))) (ok_t_n (ok_t_n (ok_t_l (ok_iadd dX13_defineNow_5)) (ok_t_l (ok_istore dX13_defineNow_6))) (ok_t_n (ok_t_l (ok_aload_n dX13_defineNow_8 rfl)) (ok_t_n (ok_t_l (ok_getfield dX13_defineNow_9 (ci := 13) (kf := 9) rfl inGX13 (by decide) w_1576)) (ok_t_l (ok_iload dX13_defineNow_12)))))) (ok_t_n (ok_t_n (ok_t_n (ok_t_l (ok_iaload dX13_defineNow_14)) (ok_t_l (ok_if_le dX13_defineNow_15 rfl))) (ok_t_n (ok_t_l (ok_aload_n dX13_defineNow_18 rfl)) (ok_t_l (ok_iconst dX13_defineNow_19 rfl)))) (ok_t_n (ok_t_n (ok_t_l (ok_inv (run_V (y := 229) (n := 1) (ci := 13) dX13_defineNow_20 cz_229 gdG cc_229 ci_229 w_1672 cm_229 cs_229 cd_229 cl_229 rfl rfl))) (ok_t_l (ok_ireturn dX13_defineNow_23))) (ok_t_n (ok_t_l (ok_aload_n dX13_defineNow_24 rfl)) (ok_t_n (ok_t_l (ok_getfield dX13_defineNow_25 (ci := 13) (kf := 9) rfl inGX13 (by decide) w_1576)) (ok_t_l (ok_iload dX13_defineNow_28))))))) (ok_t_n (ok_t_n (ok_t_n (ok_t_n (ok_t_l (ok_iload_n dX13_defineNow_30 rfl)) (ok_t_l (ok_iastore dX13_defineNow_31))) (ok_t_n (ok_t_l (ok_aload_n dX13_defineNow_32 rfl)) (ok_t_l (ok_getfield dX13_defineNow_33 (ci := 13) (kf := 10) rfl inGX13 (by decide) w_1578)))) (ok_t_n (ok_t_n (ok_t_l (ok_iload dX13_defineNow_36)) (ok_t_l (ok_iload dX13_defineNow_38))) (ok_t_n (ok_t_l (ok_iastore dX13_defineNow_40)) (ok_t_n (ok_t_l (ok_aload_n dX13_defineNow_41 rfl)) (ok_t_l (ok_getfield dX13_defineNow_42 (ci := 13) (kf := 11) rfl inGX13 (by decide) w_1580)))))) (ok_t_n (ok_t_n (ok_t_n (ok_t_l (ok_iload dX13_defineNow_45)) (ok_t_l (ok_iload dX13_defineNow_47))) (ok_t_n (ok_t_l (ok_iastore dX13_defineNow_49)) (ok_t_n (ok_t_l (ok_aload_n dX13_defineNow_50 rfl)) (ok_t_l (ok_getfield dX13_defineNow_51 (ci := 13) (kf := 12) rfl inGX13 (by decide) w_1582))))) (ok_t_n (ok_t_n (ok_t_l (ok_iload dX13_defineNow_54)) (ok_t_l (ok_iload dX13_defineNow_56))) (ok_t_n (ok_t_l (ok_zastore dX13_defineNow_58)) (ok_t_n (ok_t_l (ok_iload dX13_defineNow_59)) (ok_t_l (ok_ireturn dX13_defineNow_61))))))))
