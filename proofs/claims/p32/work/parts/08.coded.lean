theorem dX12_definitionOf_0 : decode cX12_definitionOf 0 = .ok (.iconst 0, 1) := by decide +kernel
theorem dX12_definitionOf_1 : decode cX12_definitionOf 1 = .ok (.istore_n 3, 1) := by decide +kernel
theorem dX12_definitionOf_2 : decode cX12_definitionOf 2 = .ok (.iload_n 3, 1) := by decide +kernel
theorem dX12_definitionOf_3 : decode cX12_definitionOf 3 = .ok (.aload_n 0, 1) := by decide +kernel
theorem dX12_definitionOf_4 : decode cX12_definitionOf 4 = .ok (.getfield 27, 3) := by decide +kernel
theorem dX12_definitionOf_7 : decode cX12_definitionOf 7 = .ok (.arraylength, 1) := by decide +kernel
theorem dX12_definitionOf_8 : decode cX12_definitionOf 8 = .ok (.if_icmp .ge 35, 3) := by decide +kernel
theorem dX12_definitionOf_11 : decode cX12_definitionOf 11 = .ok (.aload_n 0, 1) := by decide +kernel
theorem dX12_definitionOf_12 : decode cX12_definitionOf 12 = .ok (.getfield 27, 3) := by decide +kernel
theorem dX12_definitionOf_15 : decode cX12_definitionOf 15 = .ok (.iload_n 3, 1) := by decide +kernel
theorem dX12_definitionOf_16 : decode cX12_definitionOf 16 = .ok (.aaload, 1) := by decide +kernel
theorem dX12_definitionOf_17 : decode cX12_definitionOf 17 = .ok (.iconst 0, 1) := by decide +kernel
theorem dX12_definitionOf_18 : decode cX12_definitionOf 18 = .ok (.iaload, 1) := by decide +kernel
theorem dX12_definitionOf_19 : decode cX12_definitionOf 19 = .ok (.iload_n 1, 1) := by decide +kernel
theorem dX12_definitionOf_20 : decode cX12_definitionOf 20 = .ok (.if_icmp .ne 17, 3) := by decide +kernel
theorem dX12_definitionOf_23 : decode cX12_definitionOf 23 = .ok (.aload_n 0, 1) := by decide +kernel
theorem dX12_definitionOf_24 : decode cX12_definitionOf 24 = .ok (.getfield 27, 3) := by decide +kernel
theorem dX12_definitionOf_27 : decode cX12_definitionOf 27 = .ok (.iload_n 3, 1) := by decide +kernel
theorem dX12_definitionOf_28 : decode cX12_definitionOf 28 = .ok (.aaload, 1) := by decide +kernel
theorem dX12_definitionOf_29 : decode cX12_definitionOf 29 = .ok (.iconst 1, 1) := by decide +kernel
theorem dX12_definitionOf_30 : decode cX12_definitionOf 30 = .ok (.iaload, 1) := by decide +kernel
theorem dX12_definitionOf_31 : decode cX12_definitionOf 31 = .ok (.iload_n 2, 1) := by decide +kernel
theorem dX12_definitionOf_32 : decode cX12_definitionOf 32 = .ok (.if_icmp .ne 5, 3) := by decide +kernel
theorem dX12_definitionOf_35 : decode cX12_definitionOf 35 = .ok (.iload_n 3, 1) := by decide +kernel
theorem dX12_definitionOf_36 : decode cX12_definitionOf 36 = .ok (.ireturn, 1) := by decide +kernel
theorem dX12_definitionOf_37 : decode cX12_definitionOf 37 = .ok (.iinc 3 1, 3) := by decide +kernel
theorem dX12_definitionOf_40 : decode cX12_definitionOf 40 = .ok (.goto (-38), 3) := by decide +kernel
theorem dX12_definitionOf_43 : decode cX12_definitionOf 43 = .ok (.iconst (-1), 1) := by decide +kernel
theorem dX12_definitionOf_44 : decode cX12_definitionOf 44 = .ok (.ireturn, 1) := by decide +kernel
def g_X12_definitionOf : Nat → EA := (t_n 20 (t_n 11 (t_n 3 (t_n 1 (t_l 0 (a_push 1 (.int 0))) (t_n 2 (t_l 1 (a_istore 4 1 3)) (t_l 2 (a_iload 1 3)))) (t_n 7 (t_n 4 (t_l 3 (a_aload 1 0)) (t_l 4 (a_getf 12 6))) (t_n 8 (t_l 7 a_alen) (t_l 8 (a_ic 43 (fun x y => decide (y ≤ x))))))) (t_n 16 (t_n 12 (t_l 11 (a_aload 1 0)) (t_n 15 (t_l 12 (a_getf 12 6)) (t_l 15 (a_iload 1 3)))) (t_n 18 (t_n 17 (t_l 16 a_ald) (t_l 17 (a_push 1 (.int 0)))) (t_n 19 (t_l 18 (a_ild 0)) (t_l 19 (a_iload 1 1)))))) (t_n 31 (t_n 27 (t_n 23 (t_l 20 (a_ic 37 (fun x y => !decide (x = y)))) (t_n 24 (t_l 23 (a_aload 1 0)) (t_l 24 (a_getf 12 6)))) (t_n 29 (t_n 28 (t_l 27 (a_iload 1 3)) (t_l 28 a_ald)) (t_n 30 (t_l 29 (a_push 1 (.int 1))) (t_l 30 (a_ild 0))))) (t_n 37 (t_n 35 (t_n 32 (t_l 31 (a_iload 1 2)) (t_l 32 (a_ic 37 (fun x y => !decide (x = y))))) (t_n 36 (t_l 35 (a_iload 1 3)) (t_l 36 a_iret))) (t_n 43 (t_n 40 (t_l 37 (a_iinc 4 3 1)) (t_l 40 (a_goto 2))) (t_n 44 (t_l 43 (a_push 1 (.int (-1)))) (t_l 44 a_iret))))))
set_option maxRecDepth 100000 in
theorem k_X12_definitionOf (sc : Nat × (Nat → Int32)) (d : Nat) : ∀ pc, ev_Ok cX12_definitionOf 4 [] RX12 lw_g lw_n (lw_q sc) vwCl false (ev_CO mt lw_g lw_n (lw_q sc) vwCl d) pc (g_X12_definitionOf pc) := (ok_t_n (ok_t_n (ok_t_n (ok_t_n (ok_t_l (ok_iconst dX12_definitionOf_0 rfl)) (ok_t_n (ok_t_l (ok_istore_n dX12_definitionOf_1 rfl)) (ok_t_l (ok_iload_n dX12_definitionOf_2 rfl)))) (ok_t_n (ok_t_n (ok_t_l (ok_aload_n dX12_definitionOf_3 rfl)) (ok_t_l (ok_getfield dX12_definitionOf_4 (ci := 12) (kf := 6) rfl inGX12 (by decide) w_1349))) (ok_t_n (ok_t_l (ok_arraylength dX12_definitionOf_7)) (ok_t_l (ok_icmp_ge dX12_definitionOf_8 rfl))))) (ok_t_n (ok_t_n (ok_t_l (ok_aload_n dX12_definitionOf_11 rfl)) (ok_t_n (ok_t_l (ok_getfield dX12_definitionOf_12 (ci := 12) (kf := 6) rfl inGX12 (by decide) w_1349)) (ok_t_l (ok_iload_n dX12_definitionOf_15 rfl)))) (ok_t_n (ok_t_n (ok_t_l (ok_aaload dX12_definitionOf_16)) (ok_t_l (ok_iconst dX12_definitionOf_17 rfl))) (ok_t_n (ok_t_l (ok_iaload dX12_definitionOf_18)) (ok_t_l (ok_iload_n dX12_definitionOf_19 rfl)))))) (ok_t_n (ok_t_n (ok_t_n (ok_t_l (ok_icmp_ne dX12_definitionOf_20 rfl)) (ok_t_n (ok_t_l (ok_aload_n dX12_definitionOf_23 rfl)) (ok_t_l (ok_getfield dX12_definitionOf_24 (ci := 12) (kf := 6) rfl inGX12 (by decide) w_1349)))) (ok_t_n (ok_t_n (ok_t_l (ok_iload_n dX12_definitionOf_27 rfl)) (ok_t_l (ok_aaload dX12_definitionOf_28))) (ok_t_n (ok_t_l (ok_iconst dX12_definitionOf_29 rfl)) (ok_t_l (ok_iaload dX12_definitionOf_30))))) (ok_t_n (ok_t_n (ok_t_n (ok_t_l (ok_iload_n dX12_definitionOf_31 rfl)) (ok_t_l (ok_icmp_ne dX12_definitionOf_32 rfl))) (ok_t_n (ok_t_l (ok_iload_n dX12_definitionOf_35 rfl)) (ok_t_l (ok_ireturn dX12_definitionOf_36)))) (ok_t_n (ok_t_n (ok_t_l (ok_iinc dX12_definitionOf_37 rfl)) (ok_t_l (ok_goto dX12_definitionOf_40 rfl))) (ok_t_n (ok_t_l (ok_iconst dX12_definitionOf_43 rfl)) (ok_t_l (ok_ireturn dX12_definitionOf_44)))))))
theorem dX12_define_0 : decode cX12_define 0 = .ok (.aload_n 0, 1) := by decide +kernel
theorem dX12_define_1 : decode cX12_define 1 = .ok (.bipush 8, 2) := by decide +kernel
theorem dX12_define_3 : decode cX12_define 3 = .ok (.invokevirtual 101, 3) := by decide +kernel
theorem dX12_define_6 : decode cX12_define 6 = .ok (.istore_n 1, 1) := by decide +kernel
theorem dX12_define_7 : decode cX12_define 7 = .ok (.aload_n 0, 1) := by decide +kernel
theorem dX12_define_8 : decode cX12_define 8 = .ok (.iconst 4, 1) := by decide +kernel
theorem dX12_define_9 : decode cX12_define 9 = .ok (.invokevirtual 101, 3) := by decide +kernel
theorem dX12_define_12 : decode cX12_define 12 = .ok (.ifCond .ne 159, 3) := by decide +kernel
theorem dX12_define_15 : decode cX12_define 15 = .ok (.aload_n 0, 1) := by decide +kernel
theorem dX12_define_16 : decode cX12_define 16 = .ok (.aload_n 0, 1) := by decide +kernel
theorem dX12_define_17 : decode cX12_define 17 = .ok (.getfield 98, 3) := by decide +kernel
theorem dX12_define_20 : decode cX12_define 20 = .ok (.invokevirtual 101, 3) := by decide +kernel
theorem dX12_define_23 : decode cX12_define 23 = .ok (.istore_n 2, 1) := by decide +kernel
theorem dX12_define_24 : decode cX12_define 24 = .ok (.iconst 1, 1) := by decide +kernel
theorem dX12_define_25 : decode cX12_define 25 = .ok (.aload_n 0, 1) := by decide +kernel
theorem dX12_define_26 : decode cX12_define 26 = .ok (.bipush 9, 2) := by decide +kernel
theorem dX12_define_28 : decode cX12_define 28 = .ok (.invokevirtual 101, 3) := by decide +kernel
theorem dX12_define_31 : decode cX12_define 31 = .ok (.iadd, 1) := by decide +kernel
theorem dX12_define_32 : decode cX12_define 32 = .ok (.istore_n 3, 1) := by decide +kernel
theorem dX12_define_33 : decode cX12_define 33 = .ok (.iconst 1, 1) := by decide +kernel
theorem dX12_define_34 : decode cX12_define 34 = .ok (.aload_n 0, 1) := by decide +kernel
theorem dX12_define_35 : decode cX12_define 35 = .ok (.iconst 4, 1) := by decide +kernel
theorem dX12_define_36 : decode cX12_define 36 = .ok (.invokevirtual 101, 3) := by decide +kernel
theorem dX12_define_39 : decode cX12_define 39 = .ok (.ishl, 1) := by decide +kernel
theorem dX12_define_40 : decode cX12_define 40 = .ok (.istore 4, 2) := by decide +kernel
theorem dX12_define_42 : decode cX12_define 42 = .ok (.aload_n 0, 1) := by decide +kernel
theorem dX12_define_43 : decode cX12_define 43 = .ok (.iload_n 2, 1) := by decide +kernel
theorem dX12_define_44 : decode cX12_define 44 = .ok (.iload_n 1, 1) := by decide +kernel
theorem dX12_define_45 : decode cX12_define 45 = .ok (.invokevirtual 127, 3) := by decide +kernel
theorem dX12_define_48 : decode cX12_define 48 = .ok (.ifCond .lt 5, 3) := by decide +kernel
theorem dX12_define_51 : decode cX12_define 51 = .ok (.iconst 1, 1) := by decide +kernel
theorem dX12_define_52 : decode cX12_define 52 = .ok (.ireturn, 1) := by decide +kernel
theorem dX12_define_53 : decode cX12_define 53 = .ok (.aload_n 0, 1) := by decide +kernel
theorem dX12_define_54 : decode cX12_define 54 = .ok (.aload_n 0, 1) := by decide +kernel
theorem dX12_define_55 : decode cX12_define 55 = .ok (.getfield 27, 3) := by decide +kernel
theorem dX12_define_58 : decode cX12_define 58 = .ok (.bipush 6, 2) := by decide +kernel
theorem dX12_define_60 : decode cX12_define 60 = .ok (.newarray .int, 2) := by decide +kernel
theorem dX12_define_62 : decode cX12_define 62 = .ok (.dup, 1) := by decide +kernel
theorem dX12_define_63 : decode cX12_define 63 = .ok (.iconst 0, 1) := by decide +kernel
theorem dX12_define_64 : decode cX12_define 64 = .ok (.iload_n 2, 1) := by decide +kernel
theorem dX12_define_65 : decode cX12_define 65 = .ok (.iastore, 1) := by decide +kernel
theorem dX12_define_66 : decode cX12_define 66 = .ok (.dup, 1) := by decide +kernel
theorem dX12_define_67 : decode cX12_define 67 = .ok (.iconst 1, 1) := by decide +kernel
theorem dX12_define_68 : decode cX12_define 68 = .ok (.iload_n 1, 1) := by decide +kernel
theorem dX12_define_69 : decode cX12_define 69 = .ok (.iastore, 1) := by decide +kernel
theorem dX12_define_70 : decode cX12_define 70 = .ok (.dup, 1) := by decide +kernel
theorem dX12_define_71 : decode cX12_define 71 = .ok (.iconst 2, 1) := by decide +kernel
theorem dX12_define_72 : decode cX12_define 72 = .ok (.iconst 3, 1) := by decide +kernel
theorem dX12_define_73 : decode cX12_define 73 = .ok (.iastore, 1) := by decide +kernel
theorem dX12_define_74 : decode cX12_define 74 = .ok (.dup, 1) := by decide +kernel
theorem dX12_define_75 : decode cX12_define 75 = .ok (.iconst 3, 1) := by decide +kernel
theorem dX12_define_76 : decode cX12_define 76 = .ok (.iload_n 3, 1) := by decide +kernel
theorem dX12_define_77 : decode cX12_define 77 = .ok (.iastore, 1) := by decide +kernel
theorem dX12_define_78 : decode cX12_define 78 = .ok (.dup, 1) := by decide +kernel
theorem dX12_define_79 : decode cX12_define 79 = .ok (.iconst 4, 1) := by decide +kernel
theorem dX12_define_80 : decode cX12_define 80 = .ok (.iload 4, 2) := by decide +kernel
theorem dX12_define_82 : decode cX12_define 82 = .ok (.iastore, 1) := by decide +kernel
theorem dX12_define_83 : decode cX12_define 83 = .ok (.dup, 1) := by decide +kernel
theorem dX12_define_84 : decode cX12_define 84 = .ok (.iconst 5, 1) := by decide +kernel
theorem dX12_define_85 : decode cX12_define 85 = .ok (.iconst 0, 1) := by decide +kernel
theorem dX12_define_86 : decode cX12_define 86 = .ok (.iastore, 1) := by decide +kernel
theorem dX12_define_87 : decode cX12_define 87 = .ok (.invokestatic 105, 3) := by decide +kernel
theorem dX12_define_90 : decode cX12_define 90 = .ok (.putfield 27, 3) := by decide +kernel
theorem dX12_define_93 : decode cX12_define 93 = .ok (.iconst 0, 1) := by decide +kernel
theorem dX12_define_94 : decode cX12_define 94 = .ok (.istore 5, 2) := by decide +kernel
theorem dX12_define_96 : decode cX12_define 96 = .ok (.aload_n 0, 1) := by decide +kernel
theorem dX12_define_97 : decode cX12_define 97 = .ok (.getfield 27, 3) := by decide +kernel
theorem dX12_define_100 : decode cX12_define 100 = .ok (.astore 6, 2) := by decide +kernel
theorem dX12_define_102 : decode cX12_define 102 = .ok (.aload 6, 2) := by decide +kernel
theorem dX12_define_104 : decode cX12_define 104 = .ok (.arraylength, 1) := by decide +kernel
theorem dX12_define_105 : decode cX12_define 105 = .ok (.istore 7, 2) := by decide +kernel
theorem dX12_define_107 : decode cX12_define 107 = .ok (.iconst 0, 1) := by decide +kernel
theorem dX12_define_108 : decode cX12_define 108 = .ok (.istore 8, 2) := by decide +kernel
theorem dX12_define_110 : decode cX12_define 110 = .ok (.iload 8, 2) := by decide +kernel
theorem dX12_define_112 : decode cX12_define 112 = .ok (.iload 7, 2) := by decide +kernel
theorem dX12_define_114 : decode cX12_define 114 = .ok (.if_icmp .ge 34, 3) := by decide +kernel
theorem dX12_define_117 : decode cX12_define 117 = .ok (.aload 6, 2) := by decide +kernel
theorem dX12_define_119 : decode cX12_define 119 = .ok (.iload 8, 2) := by decide +kernel
theorem dX12_define_121 : decode cX12_define 121 = .ok (.aaload, 1) := by decide +kernel
theorem dX12_define_122 : decode cX12_define 122 = .ok (.astore 9, 2) := by decide +kernel
theorem dX12_define_124 : decode cX12_define 124 = .ok (.iload 5, 2) := by decide +kernel
theorem dX12_define_126 : decode cX12_define 126 = .ok (.aload 9, 2) := by decide +kernel
theorem dX12_define_128 : decode cX12_define 128 = .ok (.iconst 0, 1) := by decide +kernel
theorem dX12_define_129 : decode cX12_define 129 = .ok (.iaload, 1) := by decide +kernel
theorem dX12_define_130 : decode cX12_define 130 = .ok (.iload_n 2, 1) := by decide +kernel
theorem dX12_define_131 : decode cX12_define 131 = .ok (.if_icmp .ne 7, 3) := by decide +kernel
theorem dX12_define_134 : decode cX12_define 134 = .ok (.iconst 1, 1) := by decide +kernel
theorem dX12_define_135 : decode cX12_define 135 = .ok (.goto 4, 3) := by decide +kernel
theorem dX12_define_138 : decode cX12_define 138 = .ok (.iconst 0, 1) := by decide +kernel
theorem dX12_define_139 : decode cX12_define 139 = .ok (.iadd, 1) := by decide +kernel
theorem dX12_define_140 : decode cX12_define 140 = .ok (.istore 5, 2) := by decide +kernel
theorem dX12_define_142 : decode cX12_define 142 = .ok (.iinc 8 1, 3) := by decide +kernel
theorem dX12_define_145 : decode cX12_define 145 = .ok (.goto (-35), 3) := by decide +kernel
theorem dX12_define_148 : decode cX12_define 148 = .ok (.aload_n 0, 1) := by decide +kernel
theorem dX12_define_149 : decode cX12_define 149 = .ok (.getfield 10, 3) := by decide +kernel
theorem dX12_define_152 : decode cX12_define 152 = .ok (.iload_n 2, 1) := by decide +kernel
theorem dX12_define_153 : decode cX12_define 153 = .ok (.iload_n 1, 1) := by decide +kernel
theorem dX12_define_154 : decode cX12_define 154 = .ok (.iload_n 3, 1) := by decide +kernel
theorem dX12_define_155 : decode cX12_define 155 = .ok (.iload 4, 2) := by decide +kernel
theorem dX12_define_157 : decode cX12_define 157 = .ok (.invokevirtual 130, 3) := by decide +kernel
theorem dX12_define_160 : decode cX12_define 160 = .ok (.iload 5, 2) := by decide +kernel
theorem dX12_define_162 : decode cX12_define 162 = .ok (.if_icmp .ne 7, 3) := by decide +kernel
theorem dX12_define_165 : decode cX12_define 165 = .ok (.iconst 1, 1) := by decide +kernel
theorem dX12_define_166 : decode cX12_define 166 = .ok (.goto 4, 3) := by decide +kernel
theorem dX12_define_169 : decode cX12_define 169 = .ok (.iconst 0, 1) := by decide +kernel
theorem dX12_define_170 : decode cX12_define 170 = .ok (.ireturn, 1) := by decide +kernel
theorem dX12_define_171 : decode cX12_define 171 = .ok (.aload_n 0, 1) := by decide +kernel
theorem dX12_define_172 : decode cX12_define 172 = .ok (.getfield 18, 3) := by decide +kernel
theorem dX12_define_175 : decode cX12_define 175 = .ok (.arraylength, 1) := by decide +kernel
theorem dX12_define_176 : decode cX12_define 176 = .ok (.ifCond .ne 5, 3) := by decide +kernel
theorem dX12_define_179 : decode cX12_define 179 = .ok (.iconst 1, 1) := by decide +kernel
theorem dX12_define_180 : decode cX12_define 180 = .ok (.ireturn, 1) := by decide +kernel
theorem dX12_define_181 : decode cX12_define 181 = .ok (.aload_n 0, 1) := by decide +kernel
theorem dX12_define_182 : decode cX12_define 182 = .ok (.aload_n 0, 1) := by decide +kernel
theorem dX12_define_183 : decode cX12_define 183 = .ok (.getfield 18, 3) := by decide +kernel
theorem dX12_define_186 : decode cX12_define 186 = .ok (.arraylength, 1) := by decide +kernel
theorem dX12_define_187 : decode cX12_define 187 = .ok (.invokevirtual 101, 3) := by decide +kernel
theorem dX12_define_190 : decode cX12_define 190 = .ok (.istore_n 2, 1) := by decide +kernel
theorem dX12_define_191 : decode cX12_define 191 = .ok (.aload_n 0, 1) := by decide +kernel
theorem dX12_define_192 : decode cX12_define 192 = .ok (.getfield 18, 3) := by decide +kernel
theorem dX12_define_195 : decode cX12_define 195 = .ok (.iload_n 2, 1) := by decide +kernel
theorem dX12_define_196 : decode cX12_define 196 = .ok (.aaload, 1) := by decide +kernel
theorem dX12_define_197 : decode cX12_define 197 = .ok (.iconst 0, 1) := by decide +kernel
theorem dX12_define_198 : decode cX12_define 198 = .ok (.iaload, 1) := by decide +kernel
theorem dX12_define_199 : decode cX12_define 199 = .ok (.istore_n 3, 1) := by decide +kernel
theorem dX12_define_200 : decode cX12_define 200 = .ok (.aload_n 0, 1) := by decide +kernel
theorem dX12_define_201 : decode cX12_define 201 = .ok (.iconst 3, 1) := by decide +kernel
theorem dX12_define_202 : decode cX12_define 202 = .ok (.invokevirtual 101, 3) := by decide +kernel
theorem dX12_define_205 : decode cX12_define 205 = .ok (.ifCond .ne 7, 3) := by decide +kernel
theorem dX12_define_208 : decode cX12_define 208 = .ok (.iconst 2, 1) := by decide +kernel
theorem dX12_define_209 : decode cX12_define 209 = .ok (.goto 4, 3) := by decide +kernel
theorem dX12_define_212 : decode cX12_define 212 = .ok (.iconst 1, 1) := by decide +kernel
theorem dX12_define_213 : decode cX12_define 213 = .ok (.istore 4, 2) := by decide +kernel
theorem dX12_define_215 : decode cX12_define 215 = .ok (.aload_n 0, 1) := by decide +kernel
theorem dX12_define_216 : decode cX12_define 216 = .ok (.iconst 4, 1) := by decide +kernel
theorem dX12_define_217 : decode cX12_define 217 = .ok (.invokevirtual 101, 3) := by decide +kernel
theorem dX12_define_220 : decode cX12_define 220 = .ok (.ifCond .ne 7, 3) := by decide +kernel
theorem dX12_define_223 : decode cX12_define 223 = .ok (.iconst 1, 1) := by decide +kernel
theorem dX12_define_224 : decode cX12_define 224 = .ok (.goto 4, 3) := by decide +kernel
theorem dX12_define_227 : decode cX12_define 227 = .ok (.iconst 0, 1) := by decide +kernel
theorem dX12_define_228 : decode cX12_define 228 = .ok (.istore 5, 2) := by decide +kernel
theorem dX12_define_230 : decode cX12_define 230 = .ok (.aload_n 0, 1) := by decide +kernel
theorem dX12_define_231 : decode cX12_define 231 = .ok (.iload_n 3, 1) := by decide +kernel
theorem dX12_define_232 : decode cX12_define 232 = .ok (.iload_n 1, 1) := by decide +kernel
theorem dX12_define_233 : decode cX12_define 233 = .ok (.invokevirtual 127, 3) := by decide +kernel
theorem dX12_define_236 : decode cX12_define 236 = .ok (.ifCond .lt 5, 3) := by decide +kernel
theorem dX12_define_239 : decode cX12_define 239 = .ok (.iconst 1, 1) := by decide +kernel
theorem dX12_define_240 : decode cX12_define 240 = .ok (.ireturn, 1) := by decide +kernel
theorem dX12_define_241 : decode cX12_define 241 = .ok (.aload_n 0, 1) := by decide +kernel
theorem dX12_define_242 : decode cX12_define 242 = .ok (.aload_n 0, 1) := by decide +kernel
theorem dX12_define_243 : decode cX12_define 243 = .ok (.getfield 27, 3) := by decide +kernel
theorem dX12_define_246 : decode cX12_define 246 = .ok (.bipush 6, 2) := by decide +kernel
theorem dX12_define_248 : decode cX12_define 248 = .ok (.newarray .int, 2) := by decide +kernel
theorem dX12_define_250 : decode cX12_define 250 = .ok (.dup, 1) := by decide +kernel
theorem dX12_define_251 : decode cX12_define 251 = .ok (.iconst 0, 1) := by decide +kernel
theorem dX12_define_252 : decode cX12_define 252 = .ok (.iload_n 3, 1) := by decide +kernel
theorem dX12_define_253 : decode cX12_define 253 = .ok (.iastore, 1) := by decide +kernel
theorem dX12_define_254 : decode cX12_define 254 = .ok (.dup, 1) := by decide +kernel
theorem dX12_define_255 : decode cX12_define 255 = .ok (.iconst 1, 1) := by decide +kernel
theorem dX12_define_256 : decode cX12_define 256 = .ok (.iload_n 1, 1) := by decide +kernel
theorem dX12_define_257 : decode cX12_define 257 = .ok (.iastore, 1) := by decide +kernel
theorem dX12_define_258 : decode cX12_define 258 = .ok (.dup, 1) := by decide +kernel
theorem dX12_define_259 : decode cX12_define 259 = .ok (.iconst 2, 1) := by decide +kernel
theorem dX12_define_260 : decode cX12_define 260 = .ok (.iload 4, 2) := by decide +kernel
theorem dX12_define_262 : decode cX12_define 262 = .ok (.iastore, 1) := by decide +kernel
theorem dX12_define_263 : decode cX12_define 263 = .ok (.dup, 1) := by decide +kernel
theorem dX12_define_264 : decode cX12_define 264 = .ok (.iconst 3, 1) := by decide +kernel
theorem dX12_define_265 : decode cX12_define 265 = .ok (.iload_n 2, 1) := by decide +kernel
theorem dX12_define_266 : decode cX12_define 266 = .ok (.iastore, 1) := by decide +kernel
theorem dX12_define_267 : decode cX12_define 267 = .ok (.dup, 1) := by decide +kernel
theorem dX12_define_268 : decode cX12_define 268 = .ok (.iconst 4, 1) := by decide +kernel
theorem dX12_define_269 : decode cX12_define 269 = .ok (.aload_n 0, 1) := by decide +kernel
theorem dX12_define_270 : decode cX12_define 270 = .ok (.getfield 23, 3) := by decide +kernel
theorem dX12_define_273 : decode cX12_define 273 = .ok (.iload_n 2, 1) := by decide +kernel
theorem dX12_define_274 : decode cX12_define 274 = .ok (.aaload, 1) := by decide +kernel
theorem dX12_define_275 : decode cX12_define 275 = .ok (.arraylength, 1) := by decide +kernel
theorem dX12_define_276 : decode cX12_define 276 = .ok (.iastore, 1) := by decide +kernel
theorem dX12_define_277 : decode cX12_define 277 = .ok (.dup, 1) := by decide +kernel
theorem dX12_define_278 : decode cX12_define 278 = .ok (.iconst 5, 1) := by decide +kernel
theorem dX12_define_279 : decode cX12_define 279 = .ok (.iload 5, 2) := by decide +kernel
theorem dX12_define_281 : decode cX12_define 281 = .ok (.iastore, 1) := by decide +kernel
theorem dX12_define_282 : decode cX12_define 282 = .ok (.invokestatic 105, 3) := by decide +kernel
theorem dX12_define_285 : decode cX12_define 285 = .ok (.putfield 27, 3) := by decide +kernel
theorem dX12_define_288 : decode cX12_define 288 = .ok (.aload_n 0, 1) := by decide +kernel
theorem dX12_define_289 : decode cX12_define 289 = .ok (.getfield 10, 3) := by decide +kernel
theorem dX12_define_292 : decode cX12_define 292 = .ok (.iload_n 2, 1) := by decide +kernel
theorem dX12_define_293 : decode cX12_define 293 = .ok (.iload_n 1, 1) := by decide +kernel
theorem dX12_define_294 : decode cX12_define 294 = .ok (.iload 4, 2) := by decide +kernel
theorem dX12_define_296 : decode cX12_define 296 = .ok (.iconst 2, 1) := by decide +kernel
theorem dX12_define_297 : decode cX12_define 297 = .ok (.if_icmp .ne 7, 3) := by decide +kernel
theorem dX12_define_300 : decode cX12_define 300 = .ok (.iconst 1, 1) := by decide +kernel
theorem dX12_define_301 : decode cX12_define 301 = .ok (.goto 4, 3) := by decide +kernel
theorem dX12_define_304 : decode cX12_define 304 = .ok (.iconst 0, 1) := by decide +kernel
theorem dX12_define_305 : decode cX12_define 305 = .ok (.iload 5, 2) := by decide +kernel
theorem dX12_define_307 : decode cX12_define 307 = .ok (.iconst 1, 1) := by decide +kernel
theorem dX12_define_308 : decode cX12_define 308 = .ok (.if_icmp .ne 7, 3) := by decide +kernel
theorem dX12_define_311 : decode cX12_define 311 = .ok (.iconst 1, 1) := by decide +kernel
theorem dX12_define_312 : decode cX12_define 312 = .ok (.goto 4, 3) := by decide +kernel
theorem dX12_define_315 : decode cX12_define 315 = .ok (.iconst 0, 1) := by decide +kernel
theorem dX12_define_316 : decode cX12_define 316 = .ok (.invokevirtual 133, 3) := by decide +kernel
theorem dX12_define_319 : decode cX12_define 319 = .ok (.aload_n 0, 1) := by decide +kernel
theorem dX12_define_320 : decode cX12_define 320 = .ok (.getfield 23, 3) := by decide +kernel
theorem dX12_define_323 : decode cX12_define 323 = .ok (.iload_n 2, 1) := by decide +kernel
theorem dX12_define_324 : decode cX12_define 324 = .ok (.aaload, 1) := by decide +kernel
theorem dX12_define_325 : decode cX12_define 325 = .ok (.arraylength, 1) := by decide +kernel
theorem dX12_define_326 : decode cX12_define 326 = .ok (.if_icmp .ne 7, 3) := by decide +kernel
theorem dX12_define_329 : decode cX12_define 329 = .ok (.iconst 1, 1) := by decide +kernel
theorem dX12_define_330 : decode cX12_define 330 = .ok (.goto 4, 3) := by decide +kernel
theorem dX12_define_333 : decode cX12_define 333 = .ok (.iconst 0, 1) := by decide +kernel
theorem dX12_define_334 : decode cX12_define 334 = .ok (.ireturn, 1) := by decide +kernel
def g_X12_define : Nat → EA := (t_n 170 (t_n 77 (t_n 43 (t_n 24 (t_n 9 (t_n 6 (t_n 1 (t_l 0 (a_aload 1 0)) (t_n 3 (t_l 1 (a_push 2 (.int 8))) (t_l 3 (a_inv true 200 2 (some 12))))) (t_n 7 (t_l 6 (a_istore 10 1 1)) (t_n 8 (t_l 7 (a_aload 1 0)) (t_l 8 (a_push 1 (.int 4)))))) (t_n 16 (t_n 12 (t_l 9 (a_inv true 200 2 (some 12))) (t_n 15 (t_l 12 (a_if 171 (fun x => !decide (x = 0)))) (t_l 15 (a_aload 1 0)))) (t_n 20 (t_n 17 (t_l 16 (a_aload 1 0)) (t_l 17 (a_getf 12 3))) (t_n 23 (t_l 20 (a_inv true 200 2 (some 12))) (t_l 23 (a_istore 10 1 2)))))) (t_n 33 (t_n 28 (t_n 25 (t_l 24 (a_push 1 (.int 1))) (t_n 26 (t_l 25 (a_aload 1 0)) (t_l 26 (a_push 2 (.int 9))))) (t_n 31 (t_l 28 (a_inv true 200 2 (some 12))) (t_n 32 (t_l 31 (a_ii 1 (fun x y => x + y))) (t_l 32 (a_istore 10 1 3))))) (t_n 36 (t_n 34 (t_l 33 (a_push 1 (.int 1))) (t_n 35 (t_l 34 (a_aload 1 0)) (t_l 35 (a_push 1 (.int 4))))) (t_n 40 (t_n 39 (t_l 36 (a_inv true 200 2 (some 12))) (t_l 39 (a_ii 1 (fun x y => x <<< (y &&& 31))))) (t_n 42 (t_l 40 (a_istore 10 2 4)) (t_l 42 (a_aload 1 0))))))) (t_n 64 (t_n 53 (t_n 48 (t_n 44 (t_l 43 (a_iload 1 2)) (t_n 45 (t_l 44 (a_iload 1 1)) (t_l 45 (a_inv true 205 3 (some 12))))) (t_n 51 (t_l 48 (a_if 53 (fun x => decide (x < 0)))) (t_n 52 (t_l 51 (a_push 1 (.int 1))) (t_l 52 a_iret)))) (t_n 58 (t_n 54 (t_l 53 (a_aload 1 0)) (t_n 55 (t_l 54 (a_aload 1 0)) (t_l 55 (a_getf 12 6)))) (t_n 62 (t_n 60 (t_l 58 (a_push 2 (.int 6))) (t_l 60 (a_newa 0))) (t_n 63 (t_l 62 a_dup) (t_l 63 (a_push 1 (.int 0))))))) (t_n 70 (t_n 67 (t_n 65 (t_l 64 (a_iload 1 2)) (t_n 66 (t_l 65 (a_ist 0)) (t_l 66 a_dup))) (t_n 68 (t_l 67 (a_push 1 (.int 1))) (t_n 69 (t_l 68 (a_iload 1 1)) (t_l 69 (a_ist 0))))) (t_n 73 (t_n 71 (t_l 70 a_dup) (t_n 72 (t_l 71 (a_push 1 (.int 2))) (t_l 72 (a_push 1 (.int 3))))) (t_n 75 (t_n 74 (t_l 73 (a_ist 0)) (t_l 74 a_dup)) (t_n 76 (t_l 75 (a_push 1 (.int 3))) (t_l 76 (a_iload 1 3)))))))) (t_n 121 (t_n 96 (t_n 84 (t_n 80 (t_n 78 (t_l 77 (a_ist 0)) (t_n 79 (t_l 78 a_dup) (t_l 79 (a_push 1 (.int 4))))) (t_n 82 (t_l 80 (a_iload 2 4)) (t_n 83 (t_l 82 (a_ist 0)) (t_l 83 a_dup)))) (t_n 87 (t_n 85 (t_l 84 (a_push 1 (.int 5))) (t_n 86 (t_l 85 (a_push 1 (.int 0))) (t_l 86 (a_ist 0)))) (t_n 93 (t_n 90 (t_l 87 (a_inv true 201 2 none)) (t_l 90 (a_putf 9 12 6))) (t_n 94 (t_l 93 (a_push 1 (.int 0))) (t_l 94 (a_istore 10 2 5)))))) (t_n 107 (t_n 102 (t_n 97 (t_l 96 (a_aload 1 0)) (t_n 100 (t_l 97 (a_getf 12 6)) (t_l 100 (a_astore 10 2 6)))) (t_n 104 (t_l 102 (a_aload 2 6)) (t_n 105 (t_l 104 a_alen) (t_l 105 (a_istore 10 2 7))))) (t_n 112 (t_n 108 (t_l 107 (a_push 1 (.int 0))) (t_n 110 (t_l 108 (a_istore 10 2 8)) (t_l 110 (a_iload 2 8)))) (t_n 117 (t_n 114 (t_l 112 (a_iload 2 7)) (t_l 114 (a_ic 148 (fun x y => decide (y ≤ x))))) (t_n 119 (t_l 117 (a_aload 2 6)) (t_l 119 (a_iload 2 8))))))) (t_n 142 (t_n 130 (t_n 126 (t_n 122 (t_l 121 a_ald) (t_n 124 (t_l 122 (a_astore 10 2 9)) (t_l 124 (a_iload 2 5)))) (t_n 128 (t_l 126 (a_aload 2 9)) (t_n 129 (t_l 128 (a_push 1 (.int 0))) (t_l 129 (a_ild 0))))) (t_n 135 (t_n 131 (t_l 130 (a_iload 1 2)) (t_n 134 (t_l 131 (a_ic 138 (fun x y => !decide (x = y)))) (t_l 134 (a_push 1 (.int 1))))) (t_n 139 (t_n 138 (t_l 135 (a_goto 139)) (t_l 138 (a_push 1 (.int 0)))) (t_n 140 (t_l 139 (a_ii 1 (fun x y => x + y))) (t_l 140 (a_istore 10 2 5)))))) (t_n 155 (t_n 149 (t_n 145 (t_l 142 (a_iinc 10 8 1)) (t_n 148 (t_l 145 (a_goto 110)) (t_l 148 (a_aload 1 0)))) (t_n 153 (t_n 152 (t_l 149 (a_getf 12 0)) (t_l 152 (a_iload 1 2))) (t_n 154 (t_l 153 (a_iload 1 1)) (t_l 154 (a_iload 1 3))))) (t_n 162 (t_n 157 (t_l 155 (a_iload 2 4)) (t_n 160 (t_l 157 (a_inv true 165 5 (some 11))) (t_l 160 (a_iload 2 5)))) (t_n 166 (t_n 165 (t_l 162 (a_ic 169 (fun x y => !decide (x = y)))) (t_l 165 (a_push 1 (.int 1)))) (t_n 169 (t_l 166 (a_goto 170)) (t_l 169 (a_push 1 (.int 0)))))))))) (t_n 254 (t_n 212 (t_n 191 (t_n 180 (t_n 175 (t_n 171 (t_l 170 a_iret) (t_n 172 (t_l 171 (a_aload 1 0)) (t_l 172 (a_getf 12 4)))) (t_n 176 (t_l 175 a_alen) (t_n 179 (t_l 176 (a_if 181 (fun x => !decide (x = 0)))) (t_l 179 (a_push 1 (.int 1)))))) (t_n 183 (t_n 181 (t_l 180 a_iret) (t_n 182 (t_l 181 (a_aload 1 0)) (t_l 182 (a_aload 1 0)))) (t_n 187 (t_n 186 (t_l 183 (a_getf 12 4)) (t_l 186 a_alen)) (t_n 190 (t_l 187 (a_inv true 200 2 (some 12))) (t_l 190 (a_istore 10 1 2)))))) (t_n 199 (t_n 196 (t_n 192 (t_l 191 (a_aload 1 0)) (t_n 195 (t_l 192 (a_getf 12 4)) (t_l 195 (a_iload 1 2)))) (t_n 197 (t_l 196 a_ald) (t_n 198 (t_l 197 (a_push 1 (.int 0))) (t_l 198 (a_ild 0))))) (t_n 202 (t_n 200 (t_l 199 (a_istore 10 1 3)) (t_n 201 (t_l 200 (a_aload 1 0)) (t_l 201 (a_push 1 (.int 3))))) (t_n 208 (t_n 205 (t_l 202 (a_inv true 200 2 (some 12))) (t_l 205 (a_if 212 (fun x => !decide (x = 0))))) (t_n 209 (t_l 208 (a_push 1 (.int 2))) (t_l 209 (a_goto 213))))))) (t_n 233 (t_n 223 (t_n 216 (t_n 213 (t_l 212 (a_push 1 (.int 1))) (t_n 215 (t_l 213 (a_istore 10 2 4)) (t_l 215 (a_aload 1 0)))) (t_n 217 (t_l 216 (a_push 1 (.int 4))) (t_n 220 (t_l 217 (a_inv true 200 2 (some 12))) (t_l 220 (a_if 227 (fun x => !decide (x = 0))))))) (t_n 228 (t_n 224 (t_l 223 (a_push 1 (.int 1))) (t_n 227 (t_l 224 (a_goto 228)) (t_l 227 (a_push 1 (.int 0))))) (t_n 231 (t_n 230 (t_l 228 (a_istore 10 2 5)) (t_l 230 (a_aload 1 0))) (t_n 232 (t_l 231 (a_iload 1 3)) (t_l 232 (a_iload 1 1)))))) (t_n 243 (t_n 240 (t_n 236 (t_l 233 (a_inv true 205 3 (some 12))) (t_n 239 (t_l 236 (a_if 241 (fun x => decide (x < 0)))) (t_l 239 (a_push 1 (.int 1))))) (t_n 241 (t_l 240 a_iret) (t_n 242 (t_l 241 (a_aload 1 0)) (t_l 242 (a_aload 1 0))))) (t_n 250 (t_n 246 (t_l 243 (a_getf 12 6)) (t_n 248 (t_l 246 (a_push 2 (.int 6))) (t_l 248 (a_newa 0)))) (t_n 252 (t_n 251 (t_l 250 a_dup) (t_l 251 (a_push 1 (.int 0)))) (t_n 253 (t_l 252 (a_iload 1 3)) (t_l 253 (a_ist 0)))))))) (t_n 288 (t_n 268 (t_n 260 (t_n 257 (t_n 255 (t_l 254 a_dup) (t_n 256 (t_l 255 (a_push 1 (.int 1))) (t_l 256 (a_iload 1 1)))) (t_n 258 (t_l 257 (a_ist 0)) (t_n 259 (t_l 258 a_dup) (t_l 259 (a_push 1 (.int 2)))))) (t_n 264 (t_n 262 (t_l 260 (a_iload 2 4)) (t_n 263 (t_l 262 (a_ist 0)) (t_l 263 a_dup))) (t_n 266 (t_n 265 (t_l 264 (a_push 1 (.int 3))) (t_l 265 (a_iload 1 2))) (t_n 267 (t_l 266 (a_ist 0)) (t_l 267 a_dup))))) (t_n 276 (t_n 273 (t_n 269 (t_l 268 (a_push 1 (.int 4))) (t_n 270 (t_l 269 (a_aload 1 0)) (t_l 270 (a_getf 12 5)))) (t_n 274 (t_l 273 (a_iload 1 2)) (t_n 275 (t_l 274 a_ald) (t_l 275 a_alen)))) (t_n 279 (t_n 277 (t_l 276 (a_ist 0)) (t_n 278 (t_l 277 a_dup) (t_l 278 (a_push 1 (.int 5))))) (t_n 282 (t_n 281 (t_l 279 (a_iload 2 5)) (t_l 281 (a_ist 0))) (t_n 285 (t_l 282 (a_inv true 201 2 none)) (t_l 285 (a_putf 9 12 6))))))) (t_n 311 (t_n 297 (t_n 293 (t_n 289 (t_l 288 (a_aload 1 0)) (t_n 292 (t_l 289 (a_getf 12 0)) (t_l 292 (a_iload 1 2)))) (t_n 294 (t_l 293 (a_iload 1 1)) (t_n 296 (t_l 294 (a_iload 2 4)) (t_l 296 (a_push 1 (.int 2)))))) (t_n 304 (t_n 300 (t_l 297 (a_ic 304 (fun x y => !decide (x = y)))) (t_n 301 (t_l 300 (a_push 1 (.int 1))) (t_l 301 (a_goto 305)))) (t_n 307 (t_n 305 (t_l 304 (a_push 1 (.int 0))) (t_l 305 (a_iload 2 5))) (t_n 308 (t_l 307 (a_push 1 (.int 1))) (t_l 308 (a_ic 315 (fun x y => !decide (x = y)))))))) (t_n 324 (t_n 316 (t_n 312 (t_l 311 (a_push 1 (.int 1))) (t_n 315 (t_l 312 (a_goto 316)) (t_l 315 (a_push 1 (.int 0))))) (t_n 320 (t_n 319 (t_l 316 (a_inv true 164 5 (some 11))) (t_l 319 (a_aload 1 0))) (t_n 323 (t_l 320 (a_getf 12 5)) (t_l 323 (a_iload 1 2))))) (t_n 329 (t_n 325 (t_l 324 a_ald) (t_n 326 (t_l 325 a_alen) (t_l 326 (a_ic 333 (fun x y => !decide (x = y)))))) (t_n 333 (t_n 330 (t_l 329 (a_push 1 (.int 1))) (t_l 330 (a_goto 334))) (t_n 334 (t_l 333 (a_push 1 (.int 0))) (t_l 334 a_iret)))))))))
set_option maxRecDepth 100000 in
theorem k_X12_define (sc : Nat × (Nat → Int32)) (d : Nat) : ∀ pc, ev_Ok cX12_define 10 [] RX12 lw_g lw_n (lw_q sc) vwCl false (ev_CO mt lw_g lw_n (lw_q sc) vwCl d) pc (g_X12_define pc) := (ok_t_n (ok_t_n (ok_t_n (ok_t_n (ok_t_n (ok_t_n (ok_t_n (ok_t_l (ok_aload_n dX12_define_0 rfl)) (ok_t_n (ok_t_l (ok_bipush dX12_define_1 rfl)) (ok_t_l (ok_inv (run_V (y := 200) (n := 1) (ci := 12) dX12_define_3 cz_200 gdG cc_200 ci_200 w_1438 cm_200 cs_200 cd_200 cl_200 rfl rfl))))) (ok_t_n (ok_t_l (ok_istore_n dX12_define_6 rfl)) (ok_t_n (ok_t_l (ok_aload_n dX12_define_7 rfl)) (ok_t_l (ok_iconst dX12_define_8 rfl))))) (ok_t_n (ok_t_n (ok_t_l (ok_inv (run_V (y := 200) (n := 1) (ci := 12) dX12_define_9 cz_200 gdG cc_200 ci_200 w_1438 cm_200 cs_200 cd_200 cl_200 rfl rfl))) (ok_t_n (ok_t_l (ok_if_ne dX12_define_12 rfl)) (ok_t_l (ok_aload_n dX12_define_15 rfl)))) (ok_t_n (ok_t_n (ok_t_l (ok_aload_n dX12_define_16 rfl)) (ok_t_l (ok_getfield dX12_define_17 (ci := 12) (kf := 3) rfl inGX12 (by decide) w_1344))) (ok_t_n (ok_t_l (ok_inv (run_V (y := 200) (n := 1) (ci := 12) dX12_define_20 cz_200 gdG cc_200 ci_200 w_1438 cm_200 cs_200 cd_200 cl_200 rfl rfl))) (ok_t_l (ok_istore_n dX12_define_23 rfl)))))) (ok_t_n (ok_t_n (ok_t_n (ok_t_l (ok_iconst dX12_define_24 rfl)) (ok_t_n (ok_t_l (ok_aload_n dX12_define_25 rfl)) (ok_t_l (ok_bipush dX12_define_26 rfl)))) (ok_t_n (ok_t_l (ok_inv (run_V (y := 200) (n := 1) (ci := 12) dX12_define_28 cz_200 gdG cc_200 ci_200 w_1438 cm_200 cs_200 cd_200 cl_200 rfl rfl))) (ok_t_n (ok_t_l (ok_iadd dX12_define_31)) (ok_t_l (ok_istore_n dX12_define_32 rfl))))) (ok_t_n (ok_t_n (ok_t_l (ok_iconst dX12_define_33 rfl)) (ok_t_n (ok_t_l (ok_aload_n dX12_define_34 rfl)) (ok_t_l (ok_iconst dX12_define_35 rfl)))) (ok_t_n (ok_t_n (ok_t_l (ok_inv (run_V (y := 200) (n := 1) (ci := 12) dX12_define_36 cz_200 gdG cc_200 ci_200 w_1438 cm_200 cs_200 cd_200 cl_200 rfl rfl))) (ok_t_l (ok_ishl dX12_define_39))) (ok_t_n (ok_t_l (ok_istore dX12_define_40)) (ok_t_l (ok_aload_n dX12_define_42 rfl))))))) (ok_t_n (ok_t_n (ok_t_n (ok_t_n (ok_t_l (ok_iload_n dX12_define_43 rfl)) (ok_t_n (ok_t_l (ok_iload_n dX12_define_44 rfl)) (ok_t_l (ok_inv (run_V (y := 205) (n := 2) (ci := 12) dX12_define_45 cz_205 gdG cc_205 ci_205 w_1477 cm_205 cs_205 cd_205 cl_205 rfl rfl))))) (ok_t_n (ok_t_l (ok_if_lt dX12_define_48 rfl)) (ok_t_n (ok_t_l (ok_iconst dX12_define_51 rfl)) (ok_t_l (ok_ireturn dX12_define_52))))) (ok_t_n (ok_t_n (ok_t_l (ok_aload_n dX12_define_53 rfl)) (ok_t_n (ok_t_l (ok_aload_n dX12_define_54 rfl)) (ok_t_l (ok_getfield dX12_define_55 (ci := 12) (kf := 6) rfl inGX12 (by decide) w_1349)))) (ok_t_n (ok_t_n (ok_t_l (ok_bipush dX12_define_58 rfl)) (ok_t_l (ok_newint dX12_define_60 w_614))) (ok_t_n (ok_t_l (ok_dup dX12_define_62)) (ok_t_l (ok_iconst dX12_define_63 rfl)))))) (ok_t_n (ok_t_n (ok_t_n (ok_t_l (ok_iload_n dX12_define_64 rfl)) (ok_t_n (ok_t_l (ok_iastore dX12_define_65)) (ok_t_l (ok_dup dX12_define_66)))) (ok_t_n (ok_t_l (ok_iconst dX12_define_67 rfl)) (ok_t_n (ok_t_l (ok_iload_n dX12_define_68 rfl)) (ok_t_l (ok_iastore dX12_define_69))))) (ok_t_n (ok_t_n (ok_t_l (ok_dup dX12_define_70)) (ok_t_n (ok_t_l (ok_iconst dX12_define_71 rfl)) (ok_t_l (ok_iconst dX12_define_72 rfl)))) (ok_t_n (ok_t_n (ok_t_l (ok_iastore dX12_define_73)) (ok_t_l (ok_dup dX12_define_74))) (ok_t_n (ok_t_l (ok_iconst dX12_define_75 rfl)) (ok_t_l (ok_iload_n dX12_define_76 rfl)))))))) (ok_t_n (ok_t_n (ok_t_n (ok_t_n (ok_t_n (ok_t_l (ok_iastore dX12_define_77)) (ok_t_n (ok_t_l (ok_dup dX12_define_78)) (ok_t_l (ok_iconst dX12_define_79 rfl)))) (ok_t_n (ok_t_l (ok_iload dX12_define_80)) (ok_t_n (ok_t_l (ok_iastore dX12_define_82)) (ok_t_l (ok_dup dX12_define_83))))) (ok_t_n (ok_t_n (ok_t_l (ok_iconst dX12_define_84 rfl)) (ok_t_n (ok_t_l (ok_iconst dX12_define_85 rfl)) (ok_t_l (ok_iastore dX12_define_86)))) (ok_t_n (ok_t_n (ok_t_l (ok_inv (run_S (y := 201) (n := 2) dX12_define_87 cz_201 gdG cc_201 ci_201 w_1439 cm_201 cd_201 cl_201))) (ok_t_l (ok_putfield dX12_define_90 (ci := 12) (kf := 6) rfl inGX12 (by decide) tyX12_ok nmX12 rfl w_1349 rfl))) (ok_t_n (ok_t_l (ok_iconst dX12_define_93 rfl)) (ok_t_l (ok_istore dX12_define_94)))))) (ok_t_n (ok_t_n (ok_t_n (ok_t_l (ok_aload_n dX12_define_96 rfl)) (ok_t_n (ok_t_l (ok_getfield dX12_define_97 (ci := 12) (kf := 6) rfl inGX12 (by decide) w_1349)) (ok_t_l (ok_astore dX12_define_100)))) (ok_t_n (ok_t_l (ok_aload dX12_define_102)) (ok_t_n (ok_t_l (ok_arraylength dX12_define_104)) (ok_t_l (ok_istore dX12_define_105))))) (ok_t_n (ok_t_n (ok_t_l (ok_iconst dX12_define_107 rfl)) (ok_t_n (ok_t_l (ok_istore dX12_define_108)) (ok_t_l (ok_iload dX12_define_110)))) (ok_t_n (ok_t_n (ok_t_l (ok_iload dX12_define_112)) (ok_t_l (ok_icmp_ge dX12_define_114 rfl))) (ok_t_n (ok_t_l (ok_aload dX12_define_117)) (ok_t_l (ok_iload dX12_define_119))))))) (ok_t_n (ok_t_n (ok_t_n (ok_t_n (ok_t_l (ok_aaload dX12_define_121)) (ok_t_n (ok_t_l (ok_astore dX12_define_122)) (ok_t_l (ok_iload dX12_define_124)))) (ok_t_n (ok_t_l (ok_aload dX12_define_126)) (ok_t_n (ok_t_l (ok_iconst dX12_define_128 rfl)) (ok_t_l (ok_iaload dX12_define_129))))) (ok_t_n (ok_t_n (ok_t_l (ok_iload_n dX12_define_130 rfl)) (ok_t_n (ok_t_l (ok_icmp_ne dX12_define_131 rfl)) (ok_t_l (ok_iconst dX12_define_134 rfl)))) (ok_t_n (ok_t_n (ok_t_l (ok_goto dX12_define_135 rfl)) (ok_t_l (ok_iconst dX12_define_138 rfl))) (ok_t_n (ok_t_l (ok_iadd dX12_define_139)) (ok_t_l (ok_istore dX12_define_140)))))) (ok_t_n (ok_t_n (ok_t_n (ok_t_l (ok_iinc dX12_define_142 rfl)) (ok_t_n (ok_t_l (ok_goto dX12_define_145 rfl)) (ok_t_l (ok_aload_n dX12_define_148 rfl)))) (ok_t_n (ok_t_n (ok_t_l (ok_getfield dX12_define_149 (ci := 12) (kf := 0) rfl inGX12 (by decide) w_1340)) (ok_t_l (ok_iload_n dX12_define_152 rfl))) (ok_t_n (ok_t_l (ok_iload_n dX12_define_153 rfl)) (ok_t_l (ok_iload_n dX12_define_154 rfl))))) (ok_t_n (ok_t_n (ok_t_l (ok_iload dX12_define_155)) (ok_t_n (ok_t_l (ok_inv (run_V (y := 165) (n := 4) (ci := 11) dX12_define_157 cz_165 gdG cc_165 ci_165 w_1481 cm_165 cs_165 cd_165 cl_165 rfl rfl))) (ok_t_l (ok_iload dX12_define_160)))) (ok_t_n (ok_t_n (ok_t_l (ok_icmp_ne dX12_define_162 rfl)) (ok_t_l (ok_iconst dX12_define_165 rfl))) (ok_t_n (ok_t_l (ok_goto dX12_define_166 rfl)) (ok_t_l (ok_iconst dX12_define_169 rfl))))))))) (ok_t_n (ok_t_n (ok_t_n (ok_t_n (ok_t_n (ok_t_n (ok_t_l (ok_ireturn dX12_define_170)) (ok_t_n (ok_t_l (ok_aload_n dX12_define_171 rfl)) (ok_t_l (ok_getfield dX12_define_172 (ci := 12) (kf := 4) rfl inGX12 (by decide) w_1345)))) (ok_t_n (ok_t_l (ok_arraylength dX12_define_175)) (ok_t_n (ok_t_l (ok_if_ne dX12_define_176 rfl)) (ok_t_l (ok_iconst dX12_define_179 rfl))))) (ok_t_n (ok_t_n (ok_t_l (ok_ireturn dX12_define_180)) (ok_t_n (ok_t_l (ok_aload_n dX12_define_181 rfl)) (ok_t_l (ok_aload_n dX12_define_182 rfl)))) (ok_t_n (ok_t_n (ok_t_l (ok_getfield dX12_define_183 (ci := 12) (kf := 4) rfl inGX12 (by decide) w_1345)) (ok_t_l (ok_arraylength dX12_define_186))) (ok_t_n (ok_t_l (ok_inv (run_V (y := 200) (n := 1) (ci := 12) dX12_define_187 cz_200 gdG cc_200 ci_200 w_1438 cm_200 cs_200 cd_200 cl_200 rfl rfl))) (ok_t_l (ok_istore_n dX12_define_190 rfl)))))) (ok_t_n (ok_t_n (ok_t_n (ok_t_l (ok_aload_n dX12_define_191 rfl)) (ok_t_n (ok_t_l (ok_getfield dX12_define_192 (ci := 12) (kf := 4) rfl inGX12 (by decide) w_1345)) (ok_t_l (ok_iload_n dX12_define_195 rfl)))) (ok_t_n (ok_t_l (ok_aaload dX12_define_196)) (ok_t_n (ok_t_l (ok_iconst dX12_define_197 rfl)) (ok_t_l (ok_iaload dX12_define_198))))) (ok_t_n (ok_t_n (ok_t_l (ok_istore_n dX12_define_199 rfl)) (ok_t_n (ok_t_l (ok_aload_n dX12_define_200 rfl)) (ok_t_l (ok_iconst dX12_define_201 rfl)))) (ok_t_n (ok_t_n (ok_t_l (ok_inv (run_V (y := 200) (n := 1) (ci := 12) dX12_define_202 cz_200 gdG cc_200 ci_200 w_1438 cm_200 cs_200 cd_200 cl_200 rfl rfl))) (ok_t_l (ok_if_ne dX12_define_205 rfl))) (ok_t_n (ok_t_l (ok_iconst dX12_define_208 rfl)) (ok_t_l (ok_goto dX12_define_209 rfl))))))) (ok_t_n (ok_t_n (ok_t_n (ok_t_n (ok_t_l (ok_iconst dX12_define_212 rfl)) (ok_t_n (ok_t_l (ok_istore dX12_define_213)) (ok_t_l (ok_aload_n dX12_define_215 rfl)))) (ok_t_n (ok_t_l (ok_iconst dX12_define_216 rfl)) (ok_t_n (ok_t_l (ok_inv (run_V (y := 200) (n := 1) (ci := 12) dX12_define_217 cz_200 gdG cc_200 ci_200 w_1438 cm_200 cs_200 cd_200 cl_200 rfl rfl))) (ok_t_l (ok_if_ne dX12_define_220 rfl))))) (ok_t_n (ok_t_n (ok_t_l (ok_iconst dX12_define_223 rfl)) (ok_t_n (ok_t_l (ok_goto dX12_define_224 rfl)) (ok_t_l (ok_iconst dX12_define_227 rfl)))) (ok_t_n (ok_t_n (ok_t_l (ok_istore dX12_define_228)) (ok_t_l (ok_aload_n dX12_define_230 rfl))) (ok_t_n (ok_t_l (ok_iload_n dX12_define_231 rfl)) (ok_t_l (ok_iload_n dX12_define_232 rfl)))))) (ok_t_n (ok_t_n (ok_t_n (ok_t_l (ok_inv (run_V (y := 205) (n := 2) (ci := 12) dX12_define_233 cz_205 gdG cc_205 ci_205 w_1477 cm_205 cs_205 cd_205 cl_205 rfl rfl))) (ok_t_n (ok_t_l (ok_if_lt dX12_define_236 rfl)) (ok_t_l (ok_iconst dX12_define_239 rfl)))) (ok_t_n (ok_t_l (ok_ireturn dX12_define_240)) (ok_t_n (ok_t_l (ok_aload_n dX12_define_241 rfl)) (ok_t_l (ok_aload_n dX12_define_242 rfl))))) (ok_t_n (ok_t_n (ok_t_l (ok_getfield dX12_define_243 (ci := 12) (kf := 6) rfl inGX12 (by decide) w_1349)) (ok_t_n (ok_t_l (ok_bipush dX12_define_246 rfl)) (ok_t_l (ok_newint dX12_define_248 w_614)))) (ok_t_n (ok_t_n (ok_t_l (ok_dup dX12_define_250)) (ok_t_l (ok_iconst dX12_define_251 rfl))) (ok_t_n (ok_t_l (ok_iload_n dX12_define_252 rfl)) (ok_t_l (ok_iastore dX12_define_253)))))))) (ok_t_n (ok_t_n (ok_t_n (ok_t_n (ok_t_n (ok_t_l (ok_dup dX12_define_254)) (ok_t_n (ok_t_l (ok_iconst dX12_define_255 rfl)) (ok_t_l (ok_iload_n dX12_define_256 rfl)))) (ok_t_n (ok_t_l (ok_iastore dX12_define_257)) (ok_t_n (ok_t_l (ok_dup dX12_define_258)) (ok_t_l (ok_iconst dX12_define_259 rfl))))) (ok_t_n (ok_t_n (ok_t_l (ok_iload dX12_define_260)) (ok_t_n (ok_t_l (ok_iastore dX12_define_262)) (ok_t_l (ok_dup dX12_define_263)))) (ok_t_n (ok_t_n (ok_t_l (ok_iconst dX12_define_264 rfl)) (ok_t_l (ok_iload_n dX12_define_265 rfl))) (ok_t_n (ok_t_l (ok_iastore dX12_define_266)) (ok_t_l (ok_dup dX12_define_267)))))) (ok_t_n (ok_t_n (ok_t_n (ok_t_l (ok_iconst dX12_define_268 rfl)) (ok_t_n (ok_t_l (ok_aload_n dX12_define_269 rfl)) (ok_t_l (ok_getfield dX12_define_270 (ci := 12) (kf := 5) rfl inGX12 (by decide) w_1347)))) (ok_t_n (ok_t_l (ok_iload_n dX12_define_273 rfl)) (ok_t_n (ok_t_l (ok_aaload dX12_define_274)) (ok_t_l (ok_arraylength dX12_define_275))))) (ok_t_n (ok_t_n (ok_t_l (ok_iastore dX12_define_276)) (ok_t_n (ok_t_l (ok_dup dX12_define_277)) (ok_t_l (ok_iconst dX12_define_278 rfl)))) (ok_t_n (ok_t_n (ok_t_l (ok_iload dX12_define_279)) (ok_t_l (ok_iastore dX12_define_281))) (ok_t_n (ok_t_l (ok_inv (run_S (y := 201) (n := 2) dX12_define_282 cz_201 gdG cc_201 ci_201 w_1439 cm_201 cd_201 cl_201))) (ok_t_l (ok_putfield dX12_define_285 (ci := 12) (kf := 6) rfl inGX12 (by decide) tyX12_ok nmX12 rfl w_1349 rfl))))))) (ok_t_n (ok_t_n (ok_t_n (ok_t_n (ok_t_l (ok_aload_n dX12_define_288 rfl)) (ok_t_n (ok_t_l (ok_getfield dX12_define_289 (ci := 12) (kf := 0) rfl inGX12 (by decide) w_1340)) (ok_t_l (ok_iload_n dX12_define_292 rfl)))) (ok_t_n (ok_t_l (ok_iload_n dX12_define_293 rfl)) (ok_t_n (ok_t_l (ok_iload dX12_define_294)) (ok_t_l (ok_iconst dX12_define_296 rfl))))) (ok_t_n (ok_t_n (ok_t_l (ok_icmp_ne dX12_define_297 rfl)) (ok_t_n (ok_t_l (ok_iconst dX12_define_300 rfl)) (ok_t_l (ok_goto dX12_define_301 rfl)))) (ok_t_n (ok_t_n (ok_t_l (ok_iconst dX12_define_304 rfl)) (ok_t_l (ok_iload dX12_define_305))) (ok_t_n (ok_t_l (ok_iconst dX12_define_307 rfl)) (ok_t_l (ok_icmp_ne dX12_define_308 rfl)))))) (ok_t_n (ok_t_n (ok_t_n (ok_t_l (ok_iconst dX12_define_311 rfl)) (ok_t_n (ok_t_l (ok_goto dX12_define_312 rfl)) (ok_t_l (ok_iconst dX12_define_315 rfl)))) (ok_t_n (ok_t_n (ok_t_l (ok_inv (run_V (y := 164) (n := 4) (ci := 11) dX12_define_316 cz_164 gdG cc_164 ci_164 w_1482 cm_164 cs_164 cd_164 cl_164 rfl rfl))) (ok_t_l (ok_aload_n dX12_define_319 rfl))) (ok_t_n (ok_t_l (ok_getfield dX12_define_320 (ci := 12) (kf := 5) rfl inGX12 (by decide) w_1347)) (ok_t_l (ok_iload_n dX12_define_323 rfl))))) (ok_t_n (ok_t_n (ok_t_l (ok_aaload dX12_define_324)) (ok_t_n (ok_t_l (ok_arraylength dX12_define_325)) (ok_t_l (ok_icmp_ne dX12_define_326 rfl)))) (ok_t_n (ok_t_n (ok_t_l (ok_iconst dX12_define_329 rfl)) (ok_t_l (ok_goto dX12_define_330 rfl))) (ok_t_n (ok_t_l (ok_iconst dX12_define_333 rfl)) (ok_t_l (ok_ireturn dX12_define_334))))))))))
theorem dX12_row_0 : decode cX12_row 0 = .ok (.aload_n 0, 1) := by decide +kernel
theorem dX12_row_1 : decode cX12_row 1 = .ok (.iconst 0, 1) := by decide +kernel
theorem dX12_row_2 : decode cX12_row 2 = .ok (.anewarray 16, 3) := by decide +kernel
theorem dX12_row_5 : decode cX12_row 5 = .ok (.putfield 30, 3) := by decide +kernel
theorem dX12_row_8 : decode cX12_row 8 = .ok (.aload_n 0, 1) := by decide +kernel
theorem dX12_row_9 : decode cX12_row 9 = .ok (.getfield 10, 3) := by decide +kernel
theorem dX12_row_12 : decode cX12_row 12 = .ok (.invokevirtual 137, 3) := by decide +kernel
theorem dX12_row_15 : decode cX12_row 15 = .ok (.pop, 1) := by decide +kernel
theorem dX12_row_16 : decode cX12_row 16 = .ok (.iconst 0, 1) := by decide +kernel
theorem dX12_row_17 : decode cX12_row 17 = .ok (.istore_n 1, 1) := by decide +kernel
theorem dX12_row_18 : decode cX12_row 18 = .ok (.iload_n 1, 1) := by decide +kernel
theorem dX12_row_19 : decode cX12_row 19 = .ok (.aload_n 0, 1) := by decide +kernel
theorem dX12_row_20 : decode cX12_row 20 = .ok (.getfield 98, 3) := by decide +kernel
theorem dX12_row_23 : decode cX12_row 23 = .ok (.if_icmp .ge 111, 3) := by decide +kernel
theorem dX12_row_26 : decode cX12_row 26 = .ok (.iconst 1, 1) := by decide +kernel
theorem dX12_row_27 : decode cX12_row 27 = .ok (.iload_n 1, 1) := by decide +kernel
theorem dX12_row_28 : decode cX12_row 28 = .ok (.ishl, 1) := by decide +kernel
theorem dX12_row_29 : decode cX12_row 29 = .ok (.istore_n 2, 1) := by decide +kernel
theorem dX12_row_30 : decode cX12_row 30 = .ok (.iload_n 1, 1) := by decide +kernel
theorem dX12_row_31 : decode cX12_row 31 = .ok (.iconst 1, 1) := by decide +kernel
theorem dX12_row_32 : decode cX12_row 32 = .ok (.iadd, 1) := by decide +kernel
theorem dX12_row_33 : decode cX12_row 33 = .ok (.aload_n 0, 1) := by decide +kernel
theorem dX12_row_34 : decode cX12_row 34 = .ok (.getfield 98, 3) := by decide +kernel
theorem dX12_row_37 : decode cX12_row 37 = .ok (.if_icmp .ge 20, 3) := by decide +kernel
theorem dX12_row_40 : decode cX12_row 40 = .ok (.aload_n 0, 1) := by decide +kernel
theorem dX12_row_41 : decode cX12_row 41 = .ok (.iconst 2, 1) := by decide +kernel
theorem dX12_row_42 : decode cX12_row 42 = .ok (.invokevirtual 101, 3) := by decide +kernel
theorem dX12_row_45 : decode cX12_row 45 = .ok (.ifCond .ne 12, 3) := by decide +kernel
theorem dX12_row_48 : decode cX12_row 48 = .ok (.iload_n 2, 1) := by decide +kernel
theorem dX12_row_49 : decode cX12_row 49 = .ok (.iconst 1, 1) := by decide +kernel
theorem dX12_row_50 : decode cX12_row 50 = .ok (.iinc 1 1, 3) := by decide +kernel
theorem dX12_row_53 : decode cX12_row 53 = .ok (.iload_n 1, 1) := by decide +kernel
theorem dX12_row_54 : decode cX12_row 54 = .ok (.ishl, 1) := by decide +kernel
theorem dX12_row_55 : decode cX12_row 55 = .ok (.ior, 1) := by decide +kernel
theorem dX12_row_56 : decode cX12_row 56 = .ok (.istore_n 2, 1) := by decide +kernel
theorem dX12_row_57 : decode cX12_row 57 = .ok (.aload_n 0, 1) := by decide +kernel
theorem dX12_row_58 : decode cX12_row 58 = .ok (.iconst 3, 1) := by decide +kernel
theorem dX12_row_59 : decode cX12_row 59 = .ok (.invokevirtual 101, 3) := by decide +kernel
theorem dX12_row_62 : decode cX12_row 62 = .ok (.istore_n 3, 1) := by decide +kernel
theorem dX12_row_63 : decode cX12_row 63 = .ok (.aload_n 0, 1) := by decide +kernel
theorem dX12_row_64 : decode cX12_row 64 = .ok (.getfield 30, 3) := by decide +kernel
theorem dX12_row_67 : decode cX12_row 67 = .ok (.arraylength, 1) := by decide +kernel
theorem dX12_row_68 : decode cX12_row 68 = .ok (.bipush 8, 2) := by decide +kernel
theorem dX12_row_70 : decode cX12_row 70 = .ok (.if_icmp .eq 58, 3) := by decide +kernel
theorem dX12_row_73 : decode cX12_row 73 = .ok (.aload_n 0, 1) := by decide +kernel
theorem dX12_row_74 : decode cX12_row 74 = .ok (.bipush 9, 2) := by decide +kernel
theorem dX12_row_76 : decode cX12_row 76 = .ok (.invokevirtual 101, 3) := by decide +kernel
theorem dX12_row_79 : decode cX12_row 79 = .ok (.ifCond .ne 6, 3) := by decide +kernel
theorem dX12_row_82 : decode cX12_row 82 = .ok (.goto 46, 3) := by decide +kernel
theorem dX12_row_85 : decode cX12_row 85 = .ok (.aload_n 0, 1) := by decide +kernel
theorem dX12_row_86 : decode cX12_row 86 = .ok (.aload_n 0, 1) := by decide +kernel
theorem dX12_row_87 : decode cX12_row 87 = .ok (.getfield 30, 3) := by decide +kernel
theorem dX12_row_90 : decode cX12_row 90 = .ok (.iconst 2, 1) := by decide +kernel
theorem dX12_row_91 : decode cX12_row 91 = .ok (.newarray .int, 2) := by decide +kernel
theorem dX12_row_93 : decode cX12_row 93 = .ok (.dup, 1) := by decide +kernel
theorem dX12_row_94 : decode cX12_row 94 = .ok (.iconst 0, 1) := by decide +kernel
theorem dX12_row_95 : decode cX12_row 95 = .ok (.iload_n 2, 1) := by decide +kernel
theorem dX12_row_96 : decode cX12_row 96 = .ok (.iastore, 1) := by decide +kernel
theorem dX12_row_97 : decode cX12_row 97 = .ok (.dup, 1) := by decide +kernel
theorem dX12_row_98 : decode cX12_row 98 = .ok (.iconst 1, 1) := by decide +kernel
theorem dX12_row_99 : decode cX12_row 99 = .ok (.iload_n 3, 1) := by decide +kernel
theorem dX12_row_100 : decode cX12_row 100 = .ok (.iastore, 1) := by decide +kernel
theorem dX12_row_101 : decode cX12_row 101 = .ok (.invokestatic 105, 3) := by decide +kernel
theorem dX12_row_104 : decode cX12_row 104 = .ok (.putfield 30, 3) := by decide +kernel
theorem dX12_row_107 : decode cX12_row 107 = .ok (.aload_n 0, 1) := by decide +kernel
theorem dX12_row_108 : decode cX12_row 108 = .ok (.getfield 10, 3) := by decide +kernel
theorem dX12_row_111 : decode cX12_row 111 = .ok (.iload_n 2, 1) := by decide +kernel
theorem dX12_row_112 : decode cX12_row 112 = .ok (.iload_n 3, 1) := by decide +kernel
theorem dX12_row_113 : decode cX12_row 113 = .ok (.invokevirtual 141, 3) := by decide +kernel
theorem dX12_row_116 : decode cX12_row 116 = .ok (.aload_n 0, 1) := by decide +kernel
theorem dX12_row_117 : decode cX12_row 117 = .ok (.getfield 30, 3) := by decide +kernel
theorem dX12_row_120 : decode cX12_row 120 = .ok (.arraylength, 1) := by decide +kernel
theorem dX12_row_121 : decode cX12_row 121 = .ok (.iconst 1, 1) := by decide +kernel
theorem dX12_row_122 : decode cX12_row 122 = .ok (.isub, 1) := by decide +kernel
theorem dX12_row_123 : decode cX12_row 123 = .ok (.if_icmp .eq 5, 3) := by decide +kernel
theorem dX12_row_126 : decode cX12_row 126 = .ok (.iconst 0, 1) := by decide +kernel
theorem dX12_row_127 : decode cX12_row 127 = .ok (.ireturn, 1) := by decide +kernel
theorem dX12_row_128 : decode cX12_row 128 = .ok (.iinc 1 1, 3) := by decide +kernel
theorem dX12_row_131 : decode cX12_row 131 = .ok (.goto (-113), 3) := by decide +kernel
theorem dX12_row_134 : decode cX12_row 134 = .ok (.iconst 1, 1) := by decide +kernel
theorem dX12_row_135 : decode cX12_row 135 = .ok (.ireturn, 1) := by decide +kernel
def g_X12_row : Nat → EA := (t_n 64 (t_n 32 (t_n 18 (t_n 9 (t_n 2 (t_n 1 (t_l 0 (a_aload 1 0)) (t_l 1 (a_push 1 (.int 0)))) (t_n 5 (t_l 2 (a_newq 3)) (t_n 8 (t_l 5 (a_putf 9 12 7)) (t_l 8 (a_aload 1 0))))) (t_n 15 (t_n 12 (t_l 9 (a_getf 12 0)) (t_l 12 (a_inv true 167 1 (some 11)))) (t_n 16 (t_l 15 a_pop) (t_n 17 (t_l 16 (a_push 1 (.int 0))) (t_l 17 (a_istore 4 1 1)))))) (t_n 27 (t_n 20 (t_n 19 (t_l 18 (a_iload 1 1)) (t_l 19 (a_aload 1 0))) (t_n 23 (t_l 20 (a_getf 12 3)) (t_n 26 (t_l 23 (a_ic 134 (fun x y => decide (y ≤ x)))) (t_l 26 (a_push 1 (.int 1)))))) (t_n 29 (t_n 28 (t_l 27 (a_iload 1 1)) (t_l 28 (a_ii 1 (fun x y => x <<< (y &&& 31))))) (t_n 30 (t_l 29 (a_istore 4 1 2)) (t_n 31 (t_l 30 (a_iload 1 1)) (t_l 31 (a_push 1 (.int 1)))))))) (t_n 50 (t_n 41 (t_n 34 (t_n 33 (t_l 32 (a_ii 1 (fun x y => x + y))) (t_l 33 (a_aload 1 0))) (t_n 37 (t_l 34 (a_getf 12 3)) (t_n 40 (t_l 37 (a_ic 57 (fun x y => decide (y ≤ x)))) (t_l 40 (a_aload 1 0))))) (t_n 45 (t_n 42 (t_l 41 (a_push 1 (.int 2))) (t_l 42 (a_inv true 200 2 (some 12)))) (t_n 48 (t_l 45 (a_if 57 (fun x => !decide (x = 0)))) (t_n 49 (t_l 48 (a_iload 1 2)) (t_l 49 (a_push 1 (.int 1))))))) (t_n 57 (t_n 54 (t_n 53 (t_l 50 (a_iinc 4 1 1)) (t_l 53 (a_iload 1 1))) (t_n 55 (t_l 54 (a_ii 1 (fun x y => x <<< (y &&& 31)))) (t_n 56 (t_l 55 (a_ii 1 (fun x y => x ||| y))) (t_l 56 (a_istore 4 1 2))))) (t_n 59 (t_n 58 (t_l 57 (a_aload 1 0)) (t_l 58 (a_push 1 (.int 3)))) (t_n 62 (t_l 59 (a_inv true 200 2 (some 12))) (t_n 63 (t_l 62 (a_istore 4 1 3)) (t_l 63 (a_aload 1 0)))))))) (t_n 99 (t_n 86 (t_n 74 (t_n 68 (t_n 67 (t_l 64 (a_getf 12 7)) (t_l 67 a_alen)) (t_n 70 (t_l 68 (a_push 2 (.int 8))) (t_n 73 (t_l 70 (a_ic 128 (fun x y => decide (x = y)))) (t_l 73 (a_aload 1 0))))) (t_n 79 (t_n 76 (t_l 74 (a_push 2 (.int 9))) (t_l 76 (a_inv true 200 2 (some 12)))) (t_n 82 (t_l 79 (a_if 85 (fun x => !decide (x = 0)))) (t_n 85 (t_l 82 (a_goto 128)) (t_l 85 (a_aload 1 0)))))) (t_n 94 (t_n 90 (t_n 87 (t_l 86 (a_aload 1 0)) (t_l 87 (a_getf 12 7))) (t_n 91 (t_l 90 (a_push 1 (.int 2))) (t_n 93 (t_l 91 (a_newa 0)) (t_l 93 a_dup)))) (t_n 96 (t_n 95 (t_l 94 (a_push 1 (.int 0))) (t_l 95 (a_iload 1 2))) (t_n 97 (t_l 96 (a_ist 0)) (t_n 98 (t_l 97 a_dup) (t_l 98 (a_push 1 (.int 1)))))))) (t_n 117 (t_n 108 (t_n 101 (t_n 100 (t_l 99 (a_iload 1 3)) (t_l 100 (a_ist 0))) (t_n 104 (t_l 101 (a_inv true 201 2 none)) (t_n 107 (t_l 104 (a_putf 9 12 7)) (t_l 107 (a_aload 1 0))))) (t_n 112 (t_n 111 (t_l 108 (a_getf 12 0)) (t_l 111 (a_iload 1 2))) (t_n 113 (t_l 112 (a_iload 1 3)) (t_n 116 (t_l 113 (a_inv true 166 3 (some 11))) (t_l 116 (a_aload 1 0)))))) (t_n 126 (t_n 121 (t_n 120 (t_l 117 (a_getf 12 7)) (t_l 120 a_alen)) (t_n 122 (t_l 121 (a_push 1 (.int 1))) (t_n 123 (t_l 122 (a_ii 1 (fun x y => x - y))) (t_l 123 (a_ic 128 (fun x y => decide (x = y))))))) (t_n 131 (t_n 127 (t_l 126 (a_push 1 (.int 0))) (t_n 128 (t_l 127 a_iret) (t_l 128 (a_iinc 4 1 1)))) (t_n 134 (t_l 131 (a_goto 18)) (t_n 135 (t_l 134 (a_push 1 (.int 1))) (t_l 135 a_iret))))))))
set_option maxRecDepth 100000 in
theorem k_X12_row (sc : Nat × (Nat → Int32)) (d : Nat) : ∀ pc, ev_Ok cX12_row 4 [] RX12 lw_g lw_n (lw_q sc) vwCl false (ev_CO mt lw_g lw_n (lw_q sc) vwCl d) pc (g_X12_row pc) := (ok_t_n (ok_t_n (ok_t_n (ok_t_n (ok_t_n (ok_t_n (ok_t_l (ok_aload_n dX12_row_0 rfl)) (ok_t_l (ok_iconst dX12_row_1 rfl))) (ok_t_n (ok_t_l (ok_anewq (ft := .int) dX12_row_2 (by decide) (by decide) rfl w_1334 (by decide))) (ok_t_n (ok_t_l (ok_putfield dX12_row_5 (ci := 12) (kf := 7) rfl inGX12 (by decide) tyX12_ok nmX12 rfl w_1350 rfl)) (ok_t_l (ok_aload_n dX12_row_8 rfl))))) (ok_t_n (ok_t_n (ok_t_l (ok_getfield dX12_row_9 (ci := 12) (kf := 0) rfl inGX12 (by decide) w_1340)) (ok_t_l (ok_inv (run_V (y := 167) (n := 0) (ci := 11) dX12_row_12 cz_167 gdG cc_167 ci_167 w_1495 cm_167 cs_167 cd_167 cl_167 rfl rfl)))) (ok_t_n (ok_t_l (ok_pop dX12_row_15)) (ok_t_n (ok_t_l (ok_iconst dX12_row_16 rfl)) (ok_t_l (ok_istore_n dX12_row_17 rfl)))))) (ok_t_n (ok_t_n (ok_t_n (ok_t_l (ok_iload_n dX12_row_18 rfl)) (ok_t_l (ok_aload_n dX12_row_19 rfl))) (ok_t_n (ok_t_l (ok_getfield dX12_row_20 (ci := 12) (kf := 3) rfl inGX12 (by decide) w_1344)) (ok_t_n (ok_t_l (ok_icmp_ge dX12_row_23 rfl)) (ok_t_l (ok_iconst dX12_row_26 rfl))))) (ok_t_n (ok_t_n (ok_t_l (ok_iload_n dX12_row_27 rfl)) (ok_t_l (ok_ishl dX12_row_28))) (ok_t_n (ok_t_l (ok_istore_n dX12_row_29 rfl)) (ok_t_n (ok_t_l (ok_iload_n dX12_row_30 rfl)) (ok_t_l (ok_iconst dX12_row_31 rfl))))))) (ok_t_n (ok_t_n (ok_t_n (ok_t_n (ok_t_l (ok_iadd dX12_row_32)) (ok_t_l (ok_aload_n dX12_row_33 rfl))) (ok_t_n (ok_t_l (ok_getfield dX12_row_34 (ci := 12) (kf := 3) rfl inGX12 (by decide) w_1344)) (ok_t_n (ok_t_l (ok_icmp_ge dX12_row_37 rfl)) (ok_t_l (ok_aload_n dX12_row_40 rfl))))) (ok_t_n (ok_t_n (ok_t_l (ok_iconst dX12_row_41 rfl)) (ok_t_l (ok_inv (run_V (y := 200) (n := 1) (ci := 12) dX12_row_42 cz_200 gdG cc_200 ci_200 w_1438 cm_200 cs_200 cd_200 cl_200 rfl rfl)))) (ok_t_n (ok_t_l (ok_if_ne dX12_row_45 rfl)) (ok_t_n (ok_t_l (ok_iload_n dX12_row_48 rfl)) (ok_t_l (ok_iconst dX12_row_49 rfl)))))) (ok_t_n (ok_t_n (ok_t_n (ok_t_l (ok_iinc dX12_row_50 rfl)) (ok_t_l (ok_iload_n dX12_row_53 rfl))) (ok_t_n (ok_t_l (ok_ishl dX12_row_54)) (ok_t_n (ok_t_l (ok_ior dX12_row_55)) (ok_t_l (ok_istore_n dX12_row_56 rfl))))) (ok_t_n (ok_t_n (ok_t_l (ok_aload_n dX12_row_57 rfl)) (ok_t_l (ok_iconst dX12_row_58 rfl))) (ok_t_n (ok_t_l (ok_inv (run_V (y := 200) (n := 1) (ci := 12) dX12_row_59 cz_200 gdG cc_200 ci_200 w_1438 cm_200 cs_200 cd_200 cl_200 rfl rfl))) (ok_t_n (ok_t_l (ok_istore_n dX12_row_62 rfl)) (ok_t_l (ok_aload_n dX12_row_63 rfl)))))))) (ok_t_n (ok_t_n (ok_t_n (ok_t_n (ok_t_n (ok_t_l (ok_getfield dX12_row_64 (ci := 12) (kf := 7) rfl inGX12 (by decide) w_1350)) (ok_t_l (ok_arraylength dX12_row_67))) (ok_t_n (ok_t_l (ok_bipush dX12_row_68 rfl)) (ok_t_n (ok_t_l (ok_icmp_eq dX12_row_70 rfl)) (ok_t_l (ok_aload_n dX12_row_73 rfl))))) (ok_t_n (ok_t_n (ok_t_l (ok_bipush dX12_row_74 rfl)) (ok_t_l (ok_inv (run_V (y := 200) (n := 1) (ci := 12) dX12_row_76 cz_200 gdG cc_200 ci_200 w_1438 cm_200 cs_200 cd_200 cl_200 rfl rfl)))) (ok_t_n (ok_t_l (ok_if_ne dX12_row_79 rfl)) (ok_t_n (ok_t_l (ok_goto dX12_row_82 rfl)) (ok_t_l (ok_aload_n dX12_row_85 rfl)))))) (ok_t_n (ok_t_n (ok_t_n (ok_t_l (ok_aload_n dX12_row_86 rfl)) (ok_t_l (ok_getfield dX12_row_87 (ci := 12) (kf := 7) rfl inGX12 (by decide) w_1350))) (ok_t_n (ok_t_l (ok_iconst dX12_row_90 rfl)) (ok_t_n (ok_t_l (ok_newint dX12_row_91 w_614)) (ok_t_l (ok_dup dX12_row_93))))) (ok_t_n (ok_t_n (ok_t_l (ok_iconst dX12_row_94 rfl)) (ok_t_l (ok_iload_n dX12_row_95 rfl))) (ok_t_n (ok_t_l (ok_iastore dX12_row_96)) (ok_t_n (ok_t_l (ok_dup dX12_row_97)) (ok_t_l (ok_iconst dX12_row_98 rfl))))))) (ok_t_n (ok_t_n (ok_t_n (ok_t_n (ok_t_l (ok_iload_n dX12_row_99 rfl)) (ok_t_l (ok_iastore dX12_row_100))) (ok_t_n (ok_t_l (ok_inv (run_S (y := 201) (n := 2) dX12_row_101 cz_201 gdG cc_201 ci_201 w_1439 cm_201 cd_201 cl_201))) (ok_t_n (ok_t_l (ok_putfield dX12_row_104 (ci := 12) (kf := 7) rfl inGX12 (by decide) tyX12_ok nmX12 rfl w_1350 rfl)) (ok_t_l (ok_aload_n dX12_row_107 rfl))))) (ok_t_n (ok_t_n (ok_t_l (ok_getfield dX12_row_108 (ci := 12) (kf := 0) rfl inGX12 (by decide) w_1340)) (ok_t_l (ok_iload_n dX12_row_111 rfl))) (ok_t_n (ok_t_l (ok_iload_n dX12_row_112 rfl)) (ok_t_n (ok_t_l (ok_inv (run_V (y := 166) (n := 2) (ci := 11) dX12_row_113 cz_166 gdG cc_166 ci_166 w_1503 cm_166 cs_166 cd_166 cl_166 rfl rfl))) (ok_t_l (ok_aload_n dX12_row_116 rfl)))))) (ok_t_n (ok_t_n (ok_t_n (ok_t_l (ok_getfield dX12_row_117 (ci := 12) (kf := 7) rfl inGX12 (by decide) w_1350)) (ok_t_l (ok_arraylength dX12_row_120))) (ok_t_n (ok_t_l (ok_iconst dX12_row_121 rfl)) (ok_t_n (ok_t_l (ok_isub dX12_row_122)) (ok_t_l (ok_icmp_eq dX12_row_123 rfl))))) (ok_t_n (ok_t_n (ok_t_l (ok_iconst dX12_row_126 rfl)) (ok_t_n (ok_t_l (ok_ireturn dX12_row_127)) (ok_t_l (ok_iinc dX12_row_128 rfl)))) (ok_t_n (ok_t_l (ok_goto dX12_row_131 rfl)) (ok_t_n (ok_t_l (ok_iconst dX12_row_134 rfl)) (ok_t_l (ok_ireturn dX12_row_135)))))))))
theorem dX12_found_0 : decode cX12_found 0 = .ok (.aload_n 0, 1) := by decide +kernel
theorem dX12_found_1 : decode cX12_found 1 = .ok (.iconst 5, 1) := by decide +kernel
theorem dX12_found_2 : decode cX12_found 2 = .ok (.putfield 98, 3) := by decide +kernel
theorem dX12_found_5 : decode cX12_found 5 = .ok (.iconst 0, 1) := by decide +kernel
theorem dX12_found_6 : decode cX12_found 6 = .ok (.istore_n 1, 1) := by decide +kernel
theorem dX12_found_7 : decode cX12_found 7 = .ok (.iload_n 1, 1) := by decide +kernel
theorem dX12_found_8 : decode cX12_found 8 = .ok (.iconst 5, 1) := by decide +kernel
theorem dX12_found_9 : decode cX12_found 9 = .ok (.if_icmp .ge 22, 3) := by decide +kernel
theorem dX12_found_12 : decode cX12_found 12 = .ok (.aload_n 0, 1) := by decide +kernel
theorem dX12_found_13 : decode cX12_found 13 = .ok (.getfield 10, 3) := by decide +kernel
theorem dX12_found_16 : decode cX12_found 16 = .ok (.invokevirtual 144, 3) := by decide +kernel
theorem dX12_found_19 : decode cX12_found 19 = .ok (.iload_n 1, 1) := by decide +kernel
theorem dX12_found_20 : decode cX12_found 20 = .ok (.if_icmp .eq 5, 3) := by decide +kernel
theorem dX12_found_23 : decode cX12_found 23 = .ok (.iconst 0, 1) := by decide +kernel
theorem dX12_found_24 : decode cX12_found 24 = .ok (.ireturn, 1) := by decide +kernel
theorem dX12_found_25 : decode cX12_found 25 = .ok (.iinc 1 1, 3) := by decide +kernel
theorem dX12_found_28 : decode cX12_found 28 = .ok (.goto (-21), 3) := by decide +kernel
theorem dX12_found_31 : decode cX12_found 31 = .ok (.iconst 0, 1) := by decide +kernel
theorem dX12_found_32 : decode cX12_found 32 = .ok (.istore_n 1, 1) := by decide +kernel
theorem dX12_found_33 : decode cX12_found 33 = .ok (.iload_n 1, 1) := by decide +kernel
theorem dX12_found_34 : decode cX12_found 34 = .ok (.bipush 8, 2) := by decide +kernel
theorem dX12_found_36 : decode cX12_found 36 = .ok (.if_icmp .ge 46, 3) := by decide +kernel
theorem dX12_found_39 : decode cX12_found 39 = .ok (.aload_n 0, 1) := by decide +kernel
theorem dX12_found_40 : decode cX12_found 40 = .ok (.invokevirtual 147, 3) := by decide +kernel
theorem dX12_found_43 : decode cX12_found 43 = .ok (.ifCond .eq 31, 3) := by decide +kernel
theorem dX12_found_46 : decode cX12_found 46 = .ok (.aload_n 0, 1) := by decide +kernel
theorem dX12_found_47 : decode cX12_found 47 = .ok (.invokevirtual 150, 3) := by decide +kernel
theorem dX12_found_50 : decode cX12_found 50 = .ok (.ifCond .eq 24, 3) := by decide +kernel
theorem dX12_found_53 : decode cX12_found 53 = .ok (.aload_n 0, 1) := by decide +kernel
theorem dX12_found_54 : decode cX12_found 54 = .ok (.invokevirtual 152, 3) := by decide +kernel
theorem dX12_found_57 : decode cX12_found 57 = .ok (.ifCond .eq 17, 3) := by decide +kernel
theorem dX12_found_60 : decode cX12_found 60 = .ok (.aload_n 0, 1) := by decide +kernel
theorem dX12_found_61 : decode cX12_found 61 = .ok (.invokevirtual 150, 3) := by decide +kernel
theorem dX12_found_64 : decode cX12_found 64 = .ok (.ifCond .eq 10, 3) := by decide +kernel
theorem dX12_found_67 : decode cX12_found 67 = .ok (.aload_n 0, 1) := by decide +kernel
theorem dX12_found_68 : decode cX12_found 68 = .ok (.invokevirtual 152, 3) := by decide +kernel
theorem dX12_found_71 : decode cX12_found 71 = .ok (.ifCond .ne 5, 3) := by decide +kernel
theorem dX12_found_74 : decode cX12_found 74 = .ok (.iconst 0, 1) := by decide +kernel
theorem dX12_found_75 : decode cX12_found 75 = .ok (.ireturn, 1) := by decide +kernel
theorem dX12_found_76 : decode cX12_found 76 = .ok (.iinc 1 1, 3) := by decide +kernel
theorem dX12_found_79 : decode cX12_found 79 = .ok (.goto (-46), 3) := by decide +kernel
theorem dX12_found_82 : decode cX12_found 82 = .ok (.aload_n 0, 1) := by decide +kernel
theorem dX12_found_83 : decode cX12_found 83 = .ok (.invokevirtual 155, 3) := by decide +kernel
theorem dX12_found_86 : decode cX12_found 86 = .ok (.ireturn, 1) := by decide +kernel
def g_X12_found : Nat → EA := (t_n 39 (t_n 19 (t_n 7 (t_n 2 (t_n 1 (t_l 0 (a_aload 1 0)) (t_l 1 (a_push 1 (.int 5)))) (t_n 5 (t_l 2 (a_putf 0 12 3)) (t_n 6 (t_l 5 (a_push 1 (.int 0))) (t_l 6 (a_istore 2 1 1))))) (t_n 12 (t_n 8 (t_l 7 (a_iload 1 1)) (t_n 9 (t_l 8 (a_push 1 (.int 5))) (t_l 9 (a_ic 31 (fun x y => decide (y ≤ x)))))) (t_n 13 (t_l 12 (a_aload 1 0)) (t_n 16 (t_l 13 (a_getf 12 0)) (t_l 16 (a_inv true 159 1 (some 11))))))) (t_n 28 (t_n 23 (t_n 20 (t_l 19 (a_iload 1 1)) (t_l 20 (a_ic 25 (fun x y => decide (x = y))))) (t_n 24 (t_l 23 (a_push 1 (.int 0))) (t_n 25 (t_l 24 a_iret) (t_l 25 (a_iinc 2 1 1))))) (t_n 33 (t_n 31 (t_l 28 (a_goto 7)) (t_n 32 (t_l 31 (a_push 1 (.int 0))) (t_l 32 (a_istore 2 1 1)))) (t_n 34 (t_l 33 (a_iload 1 1)) (t_n 36 (t_l 34 (a_push 2 (.int 8))) (t_l 36 (a_ic 82 (fun x y => decide (y ≤ x))))))))) (t_n 64 (t_n 50 (t_n 43 (t_n 40 (t_l 39 (a_aload 1 0)) (t_l 40 (a_inv true 203 1 (some 12)))) (t_n 46 (t_l 43 (a_if 74 (fun x => decide (x = 0)))) (t_n 47 (t_l 46 (a_aload 1 0)) (t_l 47 (a_inv true 206 1 (some 12)))))) (t_n 57 (t_n 53 (t_l 50 (a_if 74 (fun x => decide (x = 0)))) (t_n 54 (t_l 53 (a_aload 1 0)) (t_l 54 (a_inv true 204 1 (some 12))))) (t_n 60 (t_l 57 (a_if 74 (fun x => decide (x = 0)))) (t_n 61 (t_l 60 (a_aload 1 0)) (t_l 61 (a_inv true 206 1 (some 12))))))) (t_n 75 (t_n 68 (t_n 67 (t_l 64 (a_if 74 (fun x => decide (x = 0)))) (t_l 67 (a_aload 1 0))) (t_n 71 (t_l 68 (a_inv true 204 1 (some 12))) (t_n 74 (t_l 71 (a_if 76 (fun x => !decide (x = 0)))) (t_l 74 (a_push 1 (.int 0)))))) (t_n 82 (t_n 76 (t_l 75 a_iret) (t_n 79 (t_l 76 (a_iinc 2 1 1)) (t_l 79 (a_goto 33)))) (t_n 83 (t_l 82 (a_aload 1 0)) (t_n 86 (t_l 83 (a_inv true 207 1 (some 12))) (t_l 86 a_iret)))))))
set_option maxRecDepth 100000 in
theorem k_X12_found (sc : Nat × (Nat → Int32)) (d : Nat) : ∀ pc, ev_Ok cX12_found 2 [] RX12 lw_g lw_n (lw_q sc) vwCl false (ev_CO mt lw_g lw_n (lw_q sc) vwCl d) pc (g_X12_found pc) := (ok_t_n (ok_t_n (ok_t_n (ok_t_n (ok_t_n (ok_t_l (ok_aload_n dX12_found_0 rfl)) (ok_t_l (ok_iconst dX12_found_1 rfl))) (ok_t_n (ok_t_l (ok_putfield dX12_found_2 (ci := 12) (kf := 3) rfl inGX12 (by decide) tyX12_ok nmX12 rfl w_1344 rfl)) (ok_t_n (ok_t_l (ok_iconst dX12_found_5 rfl)) (ok_t_l (ok_istore_n dX12_found_6 rfl))))) (ok_t_n (ok_t_n (ok_t_l (ok_iload_n dX12_found_7 rfl)) (ok_t_n (ok_t_l (ok_iconst dX12_found_8 rfl)) (ok_t_l (ok_icmp_ge dX12_found_9 rfl)))) (ok_t_n (ok_t_l (ok_aload_n dX12_found_12 rfl)) (ok_t_n (ok_t_l (ok_getfield dX12_found_13 (ci := 12) (kf := 0) rfl inGX12 (by decide) w_1340)) (ok_t_l (ok_inv (run_V (y := 159) (n := 0) (ci := 11) dX12_found_16 cz_159 gdG cc_159 ci_159 w_1530 cm_159 cs_159 cd_159 cl_159 rfl rfl))))))) (ok_t_n (ok_t_n (ok_t_n (ok_t_l (ok_iload_n dX12_found_19 rfl)) (ok_t_l (ok_icmp_eq dX12_found_20 rfl))) (ok_t_n (ok_t_l (ok_iconst dX12_found_23 rfl)) (ok_t_n (ok_t_l (ok_ireturn dX12_found_24)) (ok_t_l (ok_iinc dX12_found_25 rfl))))) (ok_t_n (ok_t_n (ok_t_l (ok_goto dX12_found_28 rfl)) (ok_t_n (ok_t_l (ok_iconst dX12_found_31 rfl)) (ok_t_l (ok_istore_n dX12_found_32 rfl)))) (ok_t_n (ok_t_l (ok_iload_n dX12_found_33 rfl)) (ok_t_n (ok_t_l (ok_bipush dX12_found_34 rfl)) (ok_t_l (ok_icmp_ge dX12_found_36 rfl))))))) (ok_t_n (ok_t_n (ok_t_n (ok_t_n (ok_t_l (ok_aload_n dX12_found_39 rfl)) (ok_t_l (ok_inv (run_V (y := 203) (n := 0) (ci := 12) dX12_found_40 cz_203 gdG cc_203 ci_203 w_1531 cm_203 cs_203 cd_203 cl_203 rfl rfl)))) (ok_t_n (ok_t_l (ok_if_eq dX12_found_43 rfl)) (ok_t_n (ok_t_l (ok_aload_n dX12_found_46 rfl)) (ok_t_l (ok_inv (run_V (y := 206) (n := 0) (ci := 12) dX12_found_47 cz_206 gdG cc_206 ci_206 w_1537 cm_206 cs_206 cd_206 cl_206 rfl rfl)))))) (ok_t_n (ok_t_n (ok_t_l (ok_if_eq dX12_found_50 rfl)) (ok_t_n (ok_t_l (ok_aload_n dX12_found_53 rfl)) (ok_t_l (ok_inv (run_V (y := 204) (n := 0) (ci := 12) dX12_found_54 cz_204 gdG cc_204 ci_204 w_1538 cm_204 cs_204 cd_204 cl_204 rfl rfl))))) (ok_t_n (ok_t_l (ok_if_eq dX12_found_57 rfl)) (ok_t_n (ok_t_l (ok_aload_n dX12_found_60 rfl)) (ok_t_l (ok_inv (run_V (y := 206) (n := 0) (ci := 12) dX12_found_61 cz_206 gdG cc_206 ci_206 w_1537 cm_206 cs_206 cd_206 cl_206 rfl rfl))))))) (ok_t_n (ok_t_n (ok_t_n (ok_t_l (ok_if_eq dX12_found_64 rfl)) (ok_t_l (ok_aload_n dX12_found_67 rfl))) (ok_t_n (ok_t_l (ok_inv (run_V (y := 204) (n := 0) (ci := 12) dX12_found_68 cz_204 gdG cc_204 ci_204 w_1538 cm_204 cs_204 cd_204 cl_204 rfl rfl))) (ok_t_n (ok_t_l (ok_if_ne dX12_found_71 rfl)) (ok_t_l (ok_iconst dX12_found_74 rfl))))) (ok_t_n (ok_t_n (ok_t_l (ok_ireturn dX12_found_75)) (ok_t_n (ok_t_l (ok_iinc dX12_found_76 rfl)) (ok_t_l (ok_goto dX12_found_79 rfl)))) (ok_t_n (ok_t_l (ok_aload_n dX12_found_82 rfl)) (ok_t_n (ok_t_l (ok_inv (run_V (y := 207) (n := 0) (ci := 12) dX12_found_83 cz_207 gdG cc_207 ci_207 w_1539 cm_207 cs_207 cd_207 cl_207 rfl rfl))) (ok_t_l (ok_ireturn dX12_found_86))))))))
theorem dJ6_bitCount_0f7a4_0 : decode cJ6_bitCount_0f7a4 0 = .ok (.iload_n 0, 1) := by decide +kernel
theorem dJ6_bitCount_0f7a4_1 : decode cJ6_bitCount_0f7a4 1 = .ok (.iload_n 0, 1) := by decide +kernel
theorem dJ6_bitCount_0f7a4_2 : decode cJ6_bitCount_0f7a4 2 = .ok (.iconst 1, 1) := by decide +kernel
theorem dJ6_bitCount_0f7a4_3 : decode cJ6_bitCount_0f7a4 3 = .ok (.iushr, 1) := by decide +kernel
theorem dJ6_bitCount_0f7a4_4 : decode cJ6_bitCount_0f7a4 4 = .ok (.ldc_w 265, 3) := by decide +kernel
theorem dJ6_bitCount_0f7a4_7 : decode cJ6_bitCount_0f7a4 7 = .ok (.iand, 1) := by decide +kernel
theorem dJ6_bitCount_0f7a4_8 : decode cJ6_bitCount_0f7a4 8 = .ok (.isub, 1) := by decide +kernel
theorem dJ6_bitCount_0f7a4_9 : decode cJ6_bitCount_0f7a4 9 = .ok (.istore_n 0, 1) := by decide +kernel
theorem dJ6_bitCount_0f7a4_10 : decode cJ6_bitCount_0f7a4 10 = .ok (.iload_n 0, 1) := by decide +kernel
theorem dJ6_bitCount_0f7a4_11 : decode cJ6_bitCount_0f7a4 11 = .ok (.ldc_w 266, 3) := by decide +kernel
theorem dJ6_bitCount_0f7a4_14 : decode cJ6_bitCount_0f7a4 14 = .ok (.iand, 1) := by decide +kernel
theorem dJ6_bitCount_0f7a4_15 : decode cJ6_bitCount_0f7a4 15 = .ok (.iload_n 0, 1) := by decide +kernel
theorem dJ6_bitCount_0f7a4_16 : decode cJ6_bitCount_0f7a4 16 = .ok (.iconst 2, 1) := by decide +kernel
theorem dJ6_bitCount_0f7a4_17 : decode cJ6_bitCount_0f7a4 17 = .ok (.iushr, 1) := by decide +kernel
theorem dJ6_bitCount_0f7a4_18 : decode cJ6_bitCount_0f7a4 18 = .ok (.ldc_w 266, 3) := by decide +kernel
theorem dJ6_bitCount_0f7a4_21 : decode cJ6_bitCount_0f7a4 21 = .ok (.iand, 1) := by decide +kernel
theorem dJ6_bitCount_0f7a4_22 : decode cJ6_bitCount_0f7a4 22 = .ok (.iadd, 1) := by decide +kernel
theorem dJ6_bitCount_0f7a4_23 : decode cJ6_bitCount_0f7a4 23 = .ok (.istore_n 0, 1) := by decide +kernel
theorem dJ6_bitCount_0f7a4_24 : decode cJ6_bitCount_0f7a4 24 = .ok (.iload_n 0, 1) := by decide +kernel
theorem dJ6_bitCount_0f7a4_25 : decode cJ6_bitCount_0f7a4 25 = .ok (.iload_n 0, 1) := by decide +kernel
theorem dJ6_bitCount_0f7a4_26 : decode cJ6_bitCount_0f7a4 26 = .ok (.iconst 4, 1) := by decide +kernel
theorem dJ6_bitCount_0f7a4_27 : decode cJ6_bitCount_0f7a4 27 = .ok (.iushr, 1) := by decide +kernel
theorem dJ6_bitCount_0f7a4_28 : decode cJ6_bitCount_0f7a4 28 = .ok (.iadd, 1) := by decide +kernel
theorem dJ6_bitCount_0f7a4_29 : decode cJ6_bitCount_0f7a4 29 = .ok (.ldc_w 267, 3) := by decide +kernel
theorem dJ6_bitCount_0f7a4_32 : decode cJ6_bitCount_0f7a4 32 = .ok (.iand, 1) := by decide +kernel
theorem dJ6_bitCount_0f7a4_33 : decode cJ6_bitCount_0f7a4 33 = .ok (.istore_n 0, 1) := by decide +kernel
theorem dJ6_bitCount_0f7a4_34 : decode cJ6_bitCount_0f7a4 34 = .ok (.iload_n 0, 1) := by decide +kernel
theorem dJ6_bitCount_0f7a4_35 : decode cJ6_bitCount_0f7a4 35 = .ok (.iload_n 0, 1) := by decide +kernel
theorem dJ6_bitCount_0f7a4_36 : decode cJ6_bitCount_0f7a4 36 = .ok (.bipush 8, 2) := by decide +kernel
theorem dJ6_bitCount_0f7a4_38 : decode cJ6_bitCount_0f7a4 38 = .ok (.iushr, 1) := by decide +kernel
theorem dJ6_bitCount_0f7a4_39 : decode cJ6_bitCount_0f7a4 39 = .ok (.iadd, 1) := by decide +kernel
theorem dJ6_bitCount_0f7a4_40 : decode cJ6_bitCount_0f7a4 40 = .ok (.istore_n 0, 1) := by decide +kernel
theorem dJ6_bitCount_0f7a4_41 : decode cJ6_bitCount_0f7a4 41 = .ok (.iload_n 0, 1) := by decide +kernel
theorem dJ6_bitCount_0f7a4_42 : decode cJ6_bitCount_0f7a4 42 = .ok (.iload_n 0, 1) := by decide +kernel
theorem dJ6_bitCount_0f7a4_43 : decode cJ6_bitCount_0f7a4 43 = .ok (.bipush 16, 2) := by decide +kernel
theorem dJ6_bitCount_0f7a4_45 : decode cJ6_bitCount_0f7a4 45 = .ok (.iushr, 1) := by decide +kernel
theorem dJ6_bitCount_0f7a4_46 : decode cJ6_bitCount_0f7a4 46 = .ok (.iadd, 1) := by decide +kernel
theorem dJ6_bitCount_0f7a4_47 : decode cJ6_bitCount_0f7a4 47 = .ok (.istore_n 0, 1) := by decide +kernel
theorem dJ6_bitCount_0f7a4_48 : decode cJ6_bitCount_0f7a4 48 = .ok (.iload_n 0, 1) := by decide +kernel
theorem dJ6_bitCount_0f7a4_49 : decode cJ6_bitCount_0f7a4 49 = .ok (.bipush 63, 2) := by decide +kernel
theorem dJ6_bitCount_0f7a4_51 : decode cJ6_bitCount_0f7a4 51 = .ok (.iand, 1) := by decide +kernel
theorem dJ6_bitCount_0f7a4_52 : decode cJ6_bitCount_0f7a4 52 = .ok (.ireturn, 1) := by decide +kernel
def g_J6_bitCount_0f7a4 : Nat → EA := (t_n 27 (t_n 14 (t_n 7 (t_n 2 (t_n 1 (t_l 0 (a_iload 1 0)) (t_l 1 (a_iload 1 0))) (t_n 3 (t_l 2 (a_push 1 (.int 1))) (t_n 4 (t_l 3 (a_ii 1 (fun x y => (x.toUInt32 >>> (y.toUInt32 &&& Int32.toUInt32 31)).toInt32))) (t_l 4 (a_push 3 (.int 1431655765)))))) (t_n 9 (t_n 8 (t_l 7 (a_ii 1 (fun x y => x &&& y))) (t_l 8 (a_ii 1 (fun x y => x - y)))) (t_n 10 (t_l 9 (a_istore 1 1 0)) (t_n 11 (t_l 10 (a_iload 1 0)) (t_l 11 (a_push 3 (.int 858993459))))))) (t_n 21 (t_n 16 (t_n 15 (t_l 14 (a_ii 1 (fun x y => x &&& y))) (t_l 15 (a_iload 1 0))) (t_n 17 (t_l 16 (a_push 1 (.int 2))) (t_n 18 (t_l 17 (a_ii 1 (fun x y => (x.toUInt32 >>> (y.toUInt32 &&& Int32.toUInt32 31)).toInt32))) (t_l 18 (a_push 3 (.int 858993459)))))) (t_n 24 (t_n 22 (t_l 21 (a_ii 1 (fun x y => x &&& y))) (t_n 23 (t_l 22 (a_ii 1 (fun x y => x + y))) (t_l 23 (a_istore 1 1 0)))) (t_n 25 (t_l 24 (a_iload 1 0)) (t_n 26 (t_l 25 (a_iload 1 0)) (t_l 26 (a_push 1 (.int 4)))))))) (t_n 40 (t_n 34 (t_n 29 (t_n 28 (t_l 27 (a_ii 1 (fun x y => (x.toUInt32 >>> (y.toUInt32 &&& Int32.toUInt32 31)).toInt32))) (t_l 28 (a_ii 1 (fun x y => x + y)))) (t_n 32 (t_l 29 (a_push 3 (.int 252645135))) (t_n 33 (t_l 32 (a_ii 1 (fun x y => x &&& y))) (t_l 33 (a_istore 1 1 0))))) (t_n 36 (t_n 35 (t_l 34 (a_iload 1 0)) (t_l 35 (a_iload 1 0))) (t_n 38 (t_l 36 (a_push 2 (.int 8))) (t_n 39 (t_l 38 (a_ii 1 (fun x y => (x.toUInt32 >>> (y.toUInt32 &&& Int32.toUInt32 31)).toInt32))) (t_l 39 (a_ii 1 (fun x y => x + y))))))) (t_n 46 (t_n 42 (t_n 41 (t_l 40 (a_istore 1 1 0)) (t_l 41 (a_iload 1 0))) (t_n 43 (t_l 42 (a_iload 1 0)) (t_n 45 (t_l 43 (a_push 2 (.int 16))) (t_l 45 (a_ii 1 (fun x y => (x.toUInt32 >>> (y.toUInt32 &&& Int32.toUInt32 31)).toInt32)))))) (t_n 49 (t_n 47 (t_l 46 (a_ii 1 (fun x y => x + y))) (t_n 48 (t_l 47 (a_istore 1 1 0)) (t_l 48 (a_iload 1 0)))) (t_n 51 (t_l 49 (a_push 2 (.int 63))) (t_n 52 (t_l 51 (a_ii 1 (fun x y => x &&& y))) (t_l 52 a_iret)))))))
set_option maxRecDepth 100000 in
theorem k_J6_bitCount_0f7a4 (sc : Nat × (Nat → Int32)) (d : Nat) : ∀ pc, ev_Ok cJ6_bitCount_0f7a4 1 [] RJ6 lw_g lw_n (lw_q sc) vwCl false (ev_CO mt lw_g lw_n (lw_q sc) vwCl d) pc (g_J6_bitCount_0f7a4 pc) := (ok_t_n (ok_t_n (ok_t_n (ok_t_n (ok_t_n (ok_t_l (ok_iload_n dJ6_bitCount_0f7a4_0 rfl)) (ok_t_l (ok_iload_n dJ6_bitCount_0f7a4_1 rfl))) (ok_t_n (ok_t_l (ok_iconst dJ6_bitCount_0f7a4_2 rfl)) (ok_t_n (ok_t_l (ok_iushr dJ6_bitCount_0f7a4_3)) (ok_t_l (ok_ldcw dJ6_bitCount_0f7a4_4 w_228))))) (ok_t_n (ok_t_n (ok_t_l (ok_iand dJ6_bitCount_0f7a4_7)) (ok_t_l (ok_isub dJ6_bitCount_0f7a4_8))) (ok_t_n (ok_t_l (ok_istore_n dJ6_bitCount_0f7a4_9 rfl)) (ok_t_n (ok_t_l (ok_iload_n dJ6_bitCount_0f7a4_10 rfl)) (ok_t_l (ok_ldcw dJ6_bitCount_0f7a4_11 w_229)))))) (ok_t_n (ok_t_n (ok_t_n (ok_t_l (ok_iand dJ6_bitCount_0f7a4_14)) (ok_t_l (ok_iload_n dJ6_bitCount_0f7a4_15 rfl))) (ok_t_n (ok_t_l (ok_iconst dJ6_bitCount_0f7a4_16 rfl)) (ok_t_n (ok_t_l (ok_iushr dJ6_bitCount_0f7a4_17)) (ok_t_l (ok_ldcw dJ6_bitCount_0f7a4_18 w_229))))) (ok_t_n (ok_t_n (ok_t_l (ok_iand dJ6_bitCount_0f7a4_21)) (ok_t_n (ok_t_l (ok_iadd dJ6_bitCount_0f7a4_22)) (ok_t_l (ok_istore_n dJ6_bitCount_0f7a4_23 rfl)))) (ok_t_n (ok_t_l (ok_iload_n dJ6_bitCount_0f7a4_24 rfl)) (ok_t_n (ok_t_l (ok_iload_n dJ6_bitCount_0f7a4_25 rfl)) (ok_t_l (ok_iconst dJ6_bitCount_0f7a4_26 rfl))))))) (ok_t_n (ok_t_n (ok_t_n (ok_t_n (ok_t_l (ok_iushr dJ6_bitCount_0f7a4_27)) (ok_t_l (ok_iadd dJ6_bitCount_0f7a4_28))) (ok_t_n (ok_t_l (ok_ldcw dJ6_bitCount_0f7a4_29 w_230)) (ok_t_n (ok_t_l (ok_iand dJ6_bitCount_0f7a4_32)) (ok_t_l (ok_istore_n dJ6_bitCount_0f7a4_33 rfl))))) (ok_t_n (ok_t_n (ok_t_l (ok_iload_n dJ6_bitCount_0f7a4_34 rfl)) (ok_t_l (ok_iload_n dJ6_bitCount_0f7a4_35 rfl))) (ok_t_n (ok_t_l (ok_bipush dJ6_bitCount_0f7a4_36 rfl)) (ok_t_n (ok_t_l (ok_iushr dJ6_bitCount_0f7a4_38)) (ok_t_l (ok_iadd dJ6_bitCount_0f7a4_39)))))) (ok_t_n (ok_t_n (ok_t_n (ok_t_l (ok_istore_n dJ6_bitCount_0f7a4_40 rfl)) (ok_t_l (ok_iload_n dJ6_bitCount_0f7a4_41 rfl))) (ok_t_n (ok_t_l (ok_iload_n dJ6_bitCount_0f7a4_42 rfl)) (ok_t_n (ok_t_l (ok_bipush dJ6_bitCount_0f7a4_43 rfl)) (ok_t_l (ok_iushr dJ6_bitCount_0f7a4_45))))) (ok_t_n (ok_t_n (ok_t_l (ok_iadd dJ6_bitCount_0f7a4_46)) (ok_t_n (ok_t_l (ok_istore_n dJ6_bitCount_0f7a4_47 rfl)) (ok_t_l (ok_iload_n dJ6_bitCount_0f7a4_48 rfl)))) (ok_t_n (ok_t_l (ok_bipush dJ6_bitCount_0f7a4_49 rfl)) (ok_t_n (ok_t_l (ok_iand dJ6_bitCount_0f7a4_51)) (ok_t_l (ok_ireturn dJ6_bitCount_0f7a4_52))))))))
theorem dJ9_abs_0f7a4_0 : decode cJ9_abs_0f7a4 0 = .ok (.iload_n 0, 1) := by decide +kernel
theorem dJ9_abs_0f7a4_1 : decode cJ9_abs_0f7a4 1 = .ok (.ifCond .ge 8, 3) := by decide +kernel
theorem dJ9_abs_0f7a4_4 : decode cJ9_abs_0f7a4 4 = .ok (.iload_n 0, 1) := by decide +kernel
theorem dJ9_abs_0f7a4_5 : decode cJ9_abs_0f7a4 5 = .ok (.ineg, 1) := by decide +kernel
theorem dJ9_abs_0f7a4_6 : decode cJ9_abs_0f7a4 6 = .ok (.goto 4, 3) := by decide +kernel
theorem dJ9_abs_0f7a4_9 : decode cJ9_abs_0f7a4 9 = .ok (.iload_n 0, 1) := by decide +kernel
theorem dJ9_abs_0f7a4_10 : decode cJ9_abs_0f7a4 10 = .ok (.ireturn, 1) := by decide +kernel
def g_J9_abs_0f7a4 : Nat → EA := (t_n 5 (t_n 1 (t_l 0 (a_iload 1 0)) (t_n 4 (t_l 1 (a_if 9 (fun x => decide (0 ≤ x)))) (t_l 4 (a_iload 1 0)))) (t_n 9 (t_n 6 (t_l 5 (a_i (fun x => .int (-x)))) (t_l 6 (a_goto 10))) (t_n 10 (t_l 9 (a_iload 1 0)) (t_l 10 a_iret))))
set_option maxRecDepth 100000 in
theorem k_J9_abs_0f7a4 (sc : Nat × (Nat → Int32)) (d : Nat) : ∀ pc, ev_Ok cJ9_abs_0f7a4 1 [] RJ9 lw_g lw_n (lw_q sc) vwCl false (ev_CO mt lw_g lw_n (lw_q sc) vwCl d) pc (g_J9_abs_0f7a4 pc) := (ok_t_n (ok_t_n (ok_t_l (ok_iload_n dJ9_abs_0f7a4_0 rfl)) (ok_t_n (ok_t_l (ok_if_ge dJ9_abs_0f7a4_1 rfl)) (ok_t_l (ok_iload_n dJ9_abs_0f7a4_4 rfl)))) (ok_t_n (ok_t_n (ok_t_l (ok_ineg dJ9_abs_0f7a4_5)) (ok_t_l (ok_goto dJ9_abs_0f7a4_6 rfl))) (ok_t_n (ok_t_l (ok_iload_n dJ9_abs_0f7a4_9 rfl)) (ok_t_l (ok_ireturn dJ9_abs_0f7a4_10)))))
theorem dJ9_max_7cf53_0 : decode cJ9_max_7cf53 0 = .ok (.iload_n 0, 1) := by decide +kernel
theorem dJ9_max_7cf53_1 : decode cJ9_max_7cf53 1 = .ok (.iload_n 1, 1) := by decide +kernel
theorem dJ9_max_7cf53_2 : decode cJ9_max_7cf53 2 = .ok (.if_icmp .lt 7, 3) := by decide +kernel
theorem dJ9_max_7cf53_5 : decode cJ9_max_7cf53 5 = .ok (.iload_n 0, 1) := by decide +kernel
theorem dJ9_max_7cf53_6 : decode cJ9_max_7cf53 6 = .ok (.goto 4, 3) := by decide +kernel
theorem dJ9_max_7cf53_9 : decode cJ9_max_7cf53 9 = .ok (.iload_n 1, 1) := by decide +kernel
theorem dJ9_max_7cf53_10 : decode cJ9_max_7cf53 10 = .ok (.ireturn, 1) := by decide +kernel
def g_J9_max_7cf53 : Nat → EA := (t_n 5 (t_n 1 (t_l 0 (a_iload 1 0)) (t_n 2 (t_l 1 (a_iload 1 1)) (t_l 2 (a_ic 9 (fun x y => decide (x < y)))))) (t_n 9 (t_n 6 (t_l 5 (a_iload 1 0)) (t_l 6 (a_goto 10))) (t_n 10 (t_l 9 (a_iload 1 1)) (t_l 10 a_iret))))
set_option maxRecDepth 100000 in
theorem k_J9_max_7cf53 (sc : Nat × (Nat → Int32)) (d : Nat) : ∀ pc, ev_Ok cJ9_max_7cf53 2 [] RJ9 lw_g lw_n (lw_q sc) vwCl false (ev_CO mt lw_g lw_n (lw_q sc) vwCl d) pc (g_J9_max_7cf53 pc) := (ok_t_n (ok_t_n (ok_t_l (ok_iload_n dJ9_max_7cf53_0 rfl)) (ok_t_n (ok_t_l (ok_iload_n dJ9_max_7cf53_1 rfl)) (ok_t_l (ok_icmp_lt dJ9_max_7cf53_2 rfl)))) (ok_t_n (ok_t_n (ok_t_l (ok_iload_n dJ9_max_7cf53_5 rfl)) (ok_t_l (ok_goto dJ9_max_7cf53_6 rfl))) (ok_t_n (ok_t_l (ok_iload_n dJ9_max_7cf53_9 rfl)) (ok_t_l (ok_ireturn dJ9_max_7cf53_10)))))
theorem dL_below_0 : decode cL_below 0 = .ok (.iload_n 0, 1) := by decide +kernel
theorem dL_below_1 : decode cL_below 1 = .ok (.ldc 7, 2) := by decide +kernel
theorem dL_below_3 : decode cL_below 3 = .ok (.iand, 1) := by decide +kernel
theorem dL_below_4 : decode cL_below 4 = .ok (.iload_n 1, 1) := by decide +kernel
theorem dL_below_5 : decode cL_below 5 = .ok (.irem, 1) := by decide +kernel
theorem dL_below_6 : decode cL_below 6 = .ok (.ireturn, 1) := by decide +kernel
def g_L_below : Nat → EA := (t_n 4 (t_n 1 (t_l 0 (a_iload 1 0)) (t_n 3 (t_l 1 (a_push 2 (.int 2147483647))) (t_l 3 (a_ii 1 (fun x y => x &&& y))))) (t_n 5 (t_l 4 (a_iload 1 1)) (t_n 6 (t_l 5 (a_iiN (fun x y => x - x / y * y))) (t_l 6 a_iret))))
set_option maxRecDepth 100000 in
theorem k_L_below (sc : Nat × (Nat → Int32)) (d : Nat) : ∀ pc, ev_Ok cL_below 2 [] RL lw_g lw_n (lw_q sc) vwCl false (ev_CO mt lw_g lw_n (lw_q sc) vwCl d) pc (g_L_below pc) := (ok_t_n (ok_t_n (ok_t_l (ok_iload_n dL_below_0 rfl)) (ok_t_n (ok_t_l (ok_ldc dL_below_1 w_1424)) (ok_t_l (ok_iand dL_below_3)))) (ok_t_n (ok_t_l (ok_iload_n dL_below_4 rfl)) (ok_t_n (ok_t_l (ok_irem dL_below_5)) (ok_t_l (ok_ireturn dL_below_6)))))
theorem dL_cell_0 : decode cL_cell 0 = .ok (.iload_n 1, 1) := by decide +kernel
theorem dL_cell_1 : decode cL_cell 1 = .ok (.aload_n 0, 1) := by decide +kernel
theorem dL_cell_2 : decode cL_cell 2 = .ok (.arraylength, 1) := by decide +kernel
theorem dL_cell_3 : decode cL_cell 3 = .ok (.if_icmp .ge 9, 3) := by decide +kernel
theorem dL_cell_6 : decode cL_cell 6 = .ok (.aload_n 0, 1) := by decide +kernel
theorem dL_cell_7 : decode cL_cell 7 = .ok (.iload_n 1, 1) := by decide +kernel
theorem dL_cell_8 : decode cL_cell 8 = .ok (.iaload, 1) := by decide +kernel
theorem dL_cell_9 : decode cL_cell 9 = .ok (.goto 9, 3) := by decide +kernel
theorem dL_cell_12 : decode cL_cell 12 = .ok (.ldc 8, 2) := by decide +kernel
theorem dL_cell_14 : decode cL_cell 14 = .ok (.iload_n 1, 1) := by decide +kernel
theorem dL_cell_15 : decode cL_cell 15 = .ok (.iconst 3, 1) := by decide +kernel
theorem dL_cell_16 : decode cL_cell 16 = .ok (.iadd, 1) := by decide +kernel
theorem dL_cell_17 : decode cL_cell 17 = .ok (.imul, 1) := by decide +kernel
theorem dL_cell_18 : decode cL_cell 18 = .ok (.ireturn, 1) := by decide +kernel
def g_L_cell (sc : Nat × (Nat → Int32)) : Nat → EA := (t_n 9 (t_n 3 (t_n 1 (t_l 0 (a_iload 1 1)) (t_n 2 (t_l 1 (a_aload 1 0)) (t_l 2 (a_slen sc)))) (t_n 7 (t_n 6 (t_l 3 (a_ic 12 (fun x y => decide (y ≤ x)))) (t_l 6 (a_aload 1 0))) (t_n 8 (t_l 7 (a_iload 1 1)) (t_l 8 (a_sld sc))))) (t_n 15 (t_n 12 (t_l 9 (a_goto 18)) (t_n 14 (t_l 12 (a_push 2 (.int 790386105))) (t_l 14 (a_iload 1 1)))) (t_n 17 (t_n 16 (t_l 15 (a_push 1 (.int 3))) (t_l 16 (a_ii 1 (fun x y => x + y)))) (t_n 18 (t_l 17 (a_ii 1 (fun x y => x * y))) (t_l 18 a_iret)))))
set_option maxRecDepth 100000 in
theorem k_L_cell (sc : Nat × (Nat → Int32)) (d : Nat) : ∀ pc, ev_Ok cL_cell 2 [] RL lw_g lw_n (lw_q sc) vwCl false (ev_CO mt lw_g lw_n (lw_q sc) vwCl d) pc (g_L_cell sc pc) := (ok_t_n (ok_t_n (ok_t_n (ok_t_l (ok_iload_n dL_cell_0 rfl)) (ok_t_n (ok_t_l (ok_aload_n dL_cell_1 rfl)) (ok_t_l (ok_slen (Tq := lw_q sc) dL_cell_2)))) (ok_t_n (ok_t_n (ok_t_l (ok_icmp_ge dL_cell_3 rfl)) (ok_t_l (ok_aload_n dL_cell_6 rfl))) (ok_t_n (ok_t_l (ok_iload_n dL_cell_7 rfl)) (ok_t_l (ok_sld (Tq := lw_q sc) dL_cell_8))))) (ok_t_n (ok_t_n (ok_t_l (ok_goto dL_cell_9 rfl)) (ok_t_n (ok_t_l (ok_ldc dL_cell_12 w_1420)) (ok_t_l (ok_iload_n dL_cell_14 rfl)))) (ok_t_n (ok_t_n (ok_t_l (ok_iconst dL_cell_15 rfl)) (ok_t_l (ok_iadd dL_cell_16))) (ok_t_n (ok_t_l (ok_imul dL_cell_17)) (ok_t_l (ok_ireturn dL_cell_18))))))
theorem dL_areWords_0 : decode cL_areWords 0 = .ok (.aload_n 0, 1) := by decide +kernel
theorem dL_areWords_1 : decode cL_areWords 1 = .ok (.bipush 9, 2) := by decide +kernel
theorem dL_areWords_3 : decode cL_areWords 3 = .ok (.invokevirtual 45, 3) := by decide +kernel
theorem dL_areWords_6 : decode cL_areWords 6 = .ok (.aload_n 1, 1) := by decide +kernel
theorem dL_areWords_7 : decode cL_areWords 7 = .ok (.arraylength, 1) := by decide +kernel
theorem dL_areWords_8 : decode cL_areWords 8 = .ok (.if_icmp .eq 5, 3) := by decide +kernel
theorem dL_areWords_11 : decode cL_areWords 11 = .ok (.iconst 0, 1) := by decide +kernel
theorem dL_areWords_12 : decode cL_areWords 12 = .ok (.ireturn, 1) := by decide +kernel
theorem dL_areWords_13 : decode cL_areWords 13 = .ok (.iconst 0, 1) := by decide +kernel
theorem dL_areWords_14 : decode cL_areWords 14 = .ok (.istore_n 2, 1) := by decide +kernel
theorem dL_areWords_15 : decode cL_areWords 15 = .ok (.iload_n 2, 1) := by decide +kernel
theorem dL_areWords_16 : decode cL_areWords 16 = .ok (.aload_n 1, 1) := by decide +kernel
theorem dL_areWords_17 : decode cL_areWords 17 = .ok (.arraylength, 1) := by decide +kernel
theorem dL_areWords_18 : decode cL_areWords 18 = .ok (.if_icmp .ge 22, 3) := by decide +kernel
theorem dL_areWords_21 : decode cL_areWords 21 = .ok (.aload_n 0, 1) := by decide +kernel
theorem dL_areWords_22 : decode cL_areWords 22 = .ok (.iload_n 2, 1) := by decide +kernel
theorem dL_areWords_23 : decode cL_areWords 23 = .ok (.invokevirtual 48, 3) := by decide +kernel
theorem dL_areWords_26 : decode cL_areWords 26 = .ok (.aload_n 1, 1) := by decide +kernel
theorem dL_areWords_27 : decode cL_areWords 27 = .ok (.iload_n 2, 1) := by decide +kernel
theorem dL_areWords_28 : decode cL_areWords 28 = .ok (.iaload, 1) := by decide +kernel
theorem dL_areWords_29 : decode cL_areWords 29 = .ok (.if_icmp .eq 5, 3) := by decide +kernel
theorem dL_areWords_32 : decode cL_areWords 32 = .ok (.iconst 0, 1) := by decide +kernel
theorem dL_areWords_33 : decode cL_areWords 33 = .ok (.ireturn, 1) := by decide +kernel
theorem dL_areWords_34 : decode cL_areWords 34 = .ok (.iinc 2 1, 3) := by decide +kernel
theorem dL_areWords_37 : decode cL_areWords 37 = .ok (.goto (-22), 3) := by decide +kernel
theorem dL_areWords_40 : decode cL_areWords 40 = .ok (.iconst 1, 1) := by decide +kernel
theorem dL_areWords_41 : decode cL_areWords 41 = .ok (.ireturn, 1) := by decide +kernel
def g_L_areWords : Nat → EA := (t_n 18 (t_n 11 (t_n 6 (t_n 1 (t_l 0 (a_aload 1 0)) (t_n 3 (t_l 1 (a_push 2 (.int 9))) (t_l 3 (a_inv true 180 2 (some 11))))) (t_n 7 (t_l 6 (a_aload 1 1)) (t_n 8 (t_l 7 a_alen) (t_l 8 (a_ic 13 (fun x y => decide (x = y))))))) (t_n 14 (t_n 12 (t_l 11 (a_push 1 (.int 0))) (t_n 13 (t_l 12 a_iret) (t_l 13 (a_push 1 (.int 0))))) (t_n 16 (t_n 15 (t_l 14 (a_istore 3 1 2)) (t_l 15 (a_iload 1 2))) (t_n 17 (t_l 16 (a_aload 1 1)) (t_l 17 a_alen))))) (t_n 29 (t_n 23 (t_n 21 (t_l 18 (a_ic 40 (fun x y => decide (y ≤ x)))) (t_n 22 (t_l 21 (a_aload 1 0)) (t_l 22 (a_iload 1 2)))) (t_n 27 (t_n 26 (t_l 23 (a_inv true 174 2 (some 11))) (t_l 26 (a_aload 1 1))) (t_n 28 (t_l 27 (a_iload 1 2)) (t_l 28 (a_ild 0))))) (t_n 34 (t_n 32 (t_l 29 (a_ic 34 (fun x y => decide (x = y)))) (t_n 33 (t_l 32 (a_push 1 (.int 0))) (t_l 33 a_iret))) (t_n 40 (t_n 37 (t_l 34 (a_iinc 3 2 1)) (t_l 37 (a_goto 15))) (t_n 41 (t_l 40 (a_push 1 (.int 1))) (t_l 41 a_iret))))))
set_option maxRecDepth 100000 in
theorem k_L_areWords (sc : Nat × (Nat → Int32)) (d : Nat) : ∀ pc, ev_Ok cL_areWords 3 [] RL lw_g lw_n (lw_q sc) vwCl false (ev_CO mt lw_g lw_n (lw_q sc) vwCl d) pc (g_L_areWords pc) := (ok_t_n (ok_t_n (ok_t_n (ok_t_n (ok_t_l (ok_aload_n dL_areWords_0 rfl)) (ok_t_n (ok_t_l (ok_bipush dL_areWords_1 rfl)) (ok_t_l (ok_inv (run_V (y := 180) (n := 1) (ci := 11) dL_areWords_3 cz_180 gdG cc_180 ci_180 w_796 cm_180 cs_180 cd_180 cl_180 rfl rfl))))) (ok_t_n (ok_t_l (ok_aload_n dL_areWords_6 rfl)) (ok_t_n (ok_t_l (ok_arraylength dL_areWords_7)) (ok_t_l (ok_icmp_eq dL_areWords_8 rfl))))) (ok_t_n (ok_t_n (ok_t_l (ok_iconst dL_areWords_11 rfl)) (ok_t_n (ok_t_l (ok_ireturn dL_areWords_12)) (ok_t_l (ok_iconst dL_areWords_13 rfl)))) (ok_t_n (ok_t_n (ok_t_l (ok_istore_n dL_areWords_14 rfl)) (ok_t_l (ok_iload_n dL_areWords_15 rfl))) (ok_t_n (ok_t_l (ok_aload_n dL_areWords_16 rfl)) (ok_t_l (ok_arraylength dL_areWords_17)))))) (ok_t_n (ok_t_n (ok_t_n (ok_t_l (ok_icmp_ge dL_areWords_18 rfl)) (ok_t_n (ok_t_l (ok_aload_n dL_areWords_21 rfl)) (ok_t_l (ok_iload_n dL_areWords_22 rfl)))) (ok_t_n (ok_t_n (ok_t_l (ok_inv (run_V (y := 174) (n := 1) (ci := 11) dL_areWords_23 cz_174 gdG cc_174 ci_174 w_635 cm_174 cs_174 cd_174 cl_174 rfl rfl))) (ok_t_l (ok_aload_n dL_areWords_26 rfl))) (ok_t_n (ok_t_l (ok_iload_n dL_areWords_27 rfl)) (ok_t_l (ok_iaload dL_areWords_28))))) (ok_t_n (ok_t_n (ok_t_l (ok_icmp_eq dL_areWords_29 rfl)) (ok_t_n (ok_t_l (ok_iconst dL_areWords_32 rfl)) (ok_t_l (ok_ireturn dL_areWords_33)))) (ok_t_n (ok_t_n (ok_t_l (ok_iinc dL_areWords_34 rfl)) (ok_t_l (ok_goto dL_areWords_37 rfl))) (ok_t_n (ok_t_l (ok_iconst dL_areWords_40 rfl)) (ok_t_l (ok_ireturn dL_areWords_41)))))))
