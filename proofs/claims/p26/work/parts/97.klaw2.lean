/-! ===== the law's own methods ===== -/
/-! L_cell -/
def tL_cell : TrD := (yL_cell, cL_cell, 2, some .int, 0, 0)
theorem dL_cell_0 : decode cL_cell 0 = .ok (.iload_n 1, 1) := by decide +kernel
theorem dL_cell_1 : decode cL_cell 1 = .ok (.aload_n 0, 1) := by decide +kernel
theorem dL_cell_2 : decode cL_cell 2 = .ok (.arraylength, 1) := by decide +kernel
theorem dL_cell_3 : decode cL_cell 3 = .ok (.if_icmp .ge 9, 3) := by decide +kernel
theorem dL_cell_6 : decode cL_cell 6 = .ok (.aload_n 0, 1) := by decide +kernel
theorem dL_cell_7 : decode cL_cell 7 = .ok (.iload_n 1, 1) := by decide +kernel
theorem dL_cell_8 : decode cL_cell 8 = .ok (.iaload, 1) := by decide +kernel
theorem dL_cell_9 : decode cL_cell 9 = .ok (.goto 9, 3) := by decide +kernel
theorem dL_cell_12 : decode cL_cell 12 = .ok (.ldc 7, 2) := by decide +kernel
theorem dL_cell_14 : decode cL_cell 14 = .ok (.iload_n 1, 1) := by decide +kernel
theorem dL_cell_15 : decode cL_cell 15 = .ok (.iconst 3, 1) := by decide +kernel
theorem dL_cell_16 : decode cL_cell 16 = .ok (.iadd, 1) := by decide +kernel
theorem dL_cell_17 : decode cL_cell 17 = .ok (.imul, 1) := by decide +kernel
theorem dL_cell_18 : decode cL_cell 18 = .ok (.ireturn, 1) := by decide +kernel
def kL_cell : Nat → WOp := cN 8 (cN 2 (cN 0 (cL 0 (o_cell)) (cN 1 (cL 1 (oBad)) (cL 2 (oBad)))) (cN 6 (cN 3 (cL 3 (oBad)) (cL 6 (oBad))) (cN 7 (cL 7 (oBad)) (cL 8 (oBad))))) (cN 14 (cN 9 (cL 9 (oBad)) (cN 12 (cL 12 (o_push 14 40503)) (cL 14 (o_iload 15 1)))) (cN 16 (cN 15 (cL 15 (o_push 16 3)) (cL 16 (o_iadd 17))) (cN 17 (cL 17 (o_imul 18)) (cL 18 (o_iret)))))
theorem sL_cell : ∀ pc, Snd tL_cell G1 pc (kL_cell pc) := s_N (s_N (s_N (s_L (s_cell dL_cell_0 dL_cell_1 dL_cell_2 dL_cell_3 dL_cell_6 dL_cell_7 dL_cell_8 dL_cell_9)) (s_N (s_L (s_bad)) (s_L (s_bad)))) (s_N (s_N (s_L (s_bad)) (s_L (s_bad))) (s_N (s_L (s_bad)) (s_L (s_bad))))) (s_N (s_N (s_L (s_bad)) (s_N (s_L (s_ldc dL_cell_12 qw_275)) (s_L (s_iload_n dL_cell_14 rfl)))) (s_N (s_N (s_L (s_iconst dL_cell_15 (by decide +kernel))) (s_L (s_o_iadd dL_cell_16))) (s_N (s_L (s_o_imul dL_cell_17)) (s_L (s_iret rfl dL_cell_18)))))
/-! L_low -/
def tL_low : TrD := (yL_low, cL_low, 2, some .int, 0, 0)
theorem dL_low_0 : decode cL_low 0 = .ok (.iload_n 0, 1) := by decide +kernel
theorem dL_low_1 : decode cL_low 1 = .ok (.ldc 8, 2) := by decide +kernel
theorem dL_low_3 : decode cL_low 3 = .ok (.iand, 1) := by decide +kernel
theorem dL_low_4 : decode cL_low 4 = .ok (.iload_n 1, 1) := by decide +kernel
theorem dL_low_5 : decode cL_low 5 = .ok (.irem, 1) := by decide +kernel
theorem dL_low_6 : decode cL_low 6 = .ok (.ireturn, 1) := by decide +kernel
def kL_low : Nat → WOp := cN 3 (cN 0 (cL 0 (o_iload 1 0)) (cN 1 (cL 1 (o_push 3 2147483647)) (cL 3 (o_iand 4)))) (cN 4 (cL 4 (o_iload 5 1)) (cN 5 (cL 5 (o_irem 6)) (cL 6 (o_iret))))
theorem sL_low : ∀ pc, Snd tL_low G1 pc (kL_low pc) := s_N (s_N (s_L (s_iload_n dL_low_0 rfl)) (s_N (s_L (s_ldc dL_low_1 qw_279)) (s_L (s_o_iand dL_low_3)))) (s_N (s_L (s_iload_n dL_low_4 rfl)) (s_N (s_L (s_o_irem dL_low_5)) (s_L (s_iret rfl dL_low_6))))
/-! L_size -/
def tL_size : TrD := (yL_size, cL_size, 1, some .int, 0, 0)
theorem dL_size_0 : decode cL_size 0 = .ok (.iload_n 0, 1) := by decide +kernel
theorem dL_size_1 : decode cL_size 1 = .ok (.ifCond .ge 8, 3) := by decide +kernel
theorem dL_size_4 : decode cL_size 4 = .ok (.iload_n 0, 1) := by decide +kernel
theorem dL_size_5 : decode cL_size 5 = .ok (.ineg, 1) := by decide +kernel
theorem dL_size_6 : decode cL_size 6 = .ok (.goto 4, 3) := by decide +kernel
theorem dL_size_9 : decode cL_size 9 = .ok (.iload_n 0, 1) := by decide +kernel
theorem dL_size_10 : decode cL_size 10 = .ok (.ireturn, 1) := by decide +kernel
def kL_size : Nat → WOp := cN 4 (cN 0 (cL 0 (o_iload 1 0)) (cN 1 (cL 1 (o_if_ge 9 4)) (cL 4 (o_iload 5 0)))) (cN 6 (cN 5 (cL 5 (o_ineg 6)) (cL 6 (o_goto 10))) (cN 9 (cL 9 (o_iload 10 0)) (cL 10 (o_iret))))
theorem sL_size : ∀ pc, Snd tL_size G1 pc (kL_size pc) := s_N (s_N (s_L (s_iload_n dL_size_0 rfl)) (s_N (s_L (s_o_if_ge dL_size_1 (by decide))) (s_L (s_iload_n dL_size_4 rfl)))) (s_N (s_N (s_L (s_o_ineg dL_size_5)) (s_L (s_o_goto dL_size_6 (by decide)))) (s_N (s_L (s_iload_n dL_size_9 rfl)) (s_L (s_iret rfl dL_size_10))))
/-! L_target -/
def tL_target : TrD := (yL_target, cL_target, 11, some .int, 1, 20)
theorem dL_target_0 : decode cL_target 0 = .ok (.iconst (-1), 1) := by decide +kernel
theorem dL_target_1 : decode cL_target 1 = .ok (.istore_n 3, 1) := by decide +kernel
theorem dL_target_2 : decode cL_target 2 = .ok (.ldc 42, 2) := by decide +kernel
theorem dL_target_4 : decode cL_target 4 = .ok (.istore 4, 2) := by decide +kernel
theorem dL_target_6 : decode cL_target 6 = .ok (.iconst 0, 1) := by decide +kernel
theorem dL_target_7 : decode cL_target 7 = .ok (.istore 5, 2) := by decide +kernel
theorem dL_target_9 : decode cL_target 9 = .ok (.iload 5, 2) := by decide +kernel
theorem dL_target_11 : decode cL_target 11 = .ok (.iconst 2, 1) := by decide +kernel
theorem dL_target_12 : decode cL_target 12 = .ok (.if_icmp .ge 160, 3) := by decide +kernel
theorem dL_target_15 : decode cL_target 15 = .ok (.iload_n 3, 1) := by decide +kernel
theorem dL_target_16 : decode cL_target 16 = .ok (.ifCond .ge 156, 3) := by decide +kernel
theorem dL_target_19 : decode cL_target 19 = .ok (.iload 5, 2) := by decide +kernel
theorem dL_target_21 : decode cL_target 21 = .ok (.ifCond .ne 10, 3) := by decide +kernel
theorem dL_target_24 : decode cL_target 24 = .ok (.aload_n 0, 1) := by decide +kernel
theorem dL_target_25 : decode cL_target 25 = .ok (.bipush 20, 2) := by decide +kernel
theorem dL_target_27 : decode cL_target 27 = .ok (.iaload, 1) := by decide +kernel
theorem dL_target_28 : decode cL_target 28 = .ok (.goto 9, 3) := by decide +kernel
theorem dL_target_31 : decode cL_target 31 = .ok (.iconst 3, 1) := by decide +kernel
theorem dL_target_32 : decode cL_target 32 = .ok (.aload_n 0, 1) := by decide +kernel
theorem dL_target_33 : decode cL_target 33 = .ok (.bipush 20, 2) := by decide +kernel
theorem dL_target_35 : decode cL_target 35 = .ok (.iaload, 1) := by decide +kernel
theorem dL_target_36 : decode cL_target 36 = .ok (.isub, 1) := by decide +kernel
theorem dL_target_37 : decode cL_target 37 = .ok (.istore 6, 2) := by decide +kernel
theorem dL_target_39 : decode cL_target 39 = .ok (.iconst 0, 1) := by decide +kernel
theorem dL_target_40 : decode cL_target 40 = .ok (.istore 7, 2) := by decide +kernel
theorem dL_target_42 : decode cL_target 42 = .ok (.iload 7, 2) := by decide +kernel
theorem dL_target_44 : decode cL_target 44 = .ok (.aload_n 0, 1) := by decide +kernel
theorem dL_target_45 : decode cL_target 45 = .ok (.bipush 21, 2) := by decide +kernel
theorem dL_target_47 : decode cL_target 47 = .ok (.iaload, 1) := by decide +kernel
theorem dL_target_48 : decode cL_target 48 = .ok (.if_icmp .ge 118, 3) := by decide +kernel
theorem dL_target_51 : decode cL_target 51 = .ok (.aload_n 1, 1) := by decide +kernel
theorem dL_target_52 : decode cL_target 52 = .ok (.iconst 5, 1) := by decide +kernel
theorem dL_target_53 : decode cL_target 53 = .ok (.iload 7, 2) := by decide +kernel
theorem dL_target_55 : decode cL_target 55 = .ok (.imul, 1) := by decide +kernel
theorem dL_target_56 : decode cL_target 56 = .ok (.iconst 1, 1) := by decide +kernel
theorem dL_target_57 : decode cL_target 57 = .ok (.iadd, 1) := by decide +kernel
theorem dL_target_58 : decode cL_target 58 = .ok (.iaload, 1) := by decide +kernel
theorem dL_target_59 : decode cL_target 59 = .ok (.aload_n 0, 1) := by decide +kernel
theorem dL_target_60 : decode cL_target 60 = .ok (.bipush 16, 2) := by decide +kernel
theorem dL_target_62 : decode cL_target 62 = .ok (.iaload, 1) := by decide +kernel
theorem dL_target_63 : decode cL_target 63 = .ok (.isub, 1) := by decide +kernel
theorem dL_target_64 : decode cL_target 64 = .ok (.istore 8, 2) := by decide +kernel
theorem dL_target_66 : decode cL_target 66 = .ok (.iload_n 2, 1) := by decide +kernel
theorem dL_target_67 : decode cL_target 67 = .ok (.ifCond .ne 7, 3) := by decide +kernel
theorem dL_target_70 : decode cL_target 70 = .ok (.iconst 0, 1) := by decide +kernel
theorem dL_target_71 : decode cL_target 71 = .ok (.goto 24, 3) := by decide +kernel
theorem dL_target_74 : decode cL_target 74 = .ok (.iload_n 2, 1) := by decide +kernel
theorem dL_target_75 : decode cL_target 75 = .ok (.iconst 3, 1) := by decide +kernel
theorem dL_target_76 : decode cL_target 76 = .ok (.if_icmp .ne 14, 3) := by decide +kernel
theorem dL_target_79 : decode cL_target 79 = .ok (.aload_n 1, 1) := by decide +kernel
theorem dL_target_80 : decode cL_target 80 = .ok (.iconst 5, 1) := by decide +kernel
theorem dL_target_81 : decode cL_target 81 = .ok (.iload 7, 2) := by decide +kernel
theorem dL_target_83 : decode cL_target 83 = .ok (.imul, 1) := by decide +kernel
theorem dL_target_84 : decode cL_target 84 = .ok (.iconst 3, 1) := by decide +kernel
theorem dL_target_85 : decode cL_target 85 = .ok (.iadd, 1) := by decide +kernel
theorem dL_target_86 : decode cL_target 86 = .ok (.iaload, 1) := by decide +kernel
theorem dL_target_87 : decode cL_target 87 = .ok (.goto 8, 3) := by decide +kernel
theorem dL_target_90 : decode cL_target 90 = .ok (.iload 8, 2) := by decide +kernel
theorem dL_target_92 : decode cL_target 92 = .ok (.invokestatic 43, 3) := by decide +kernel
theorem dL_target_95 : decode cL_target 95 = .ok (.istore 9, 2) := by decide +kernel
theorem dL_target_97 : decode cL_target 97 = .ok (.iload_n 2, 1) := by decide +kernel
theorem dL_target_98 : decode cL_target 98 = .ok (.iconst 1, 1) := by decide +kernel
theorem dL_target_99 : decode cL_target 99 = .ok (.if_icmp .ne 22, 3) := by decide +kernel
theorem dL_target_102 : decode cL_target 102 = .ok (.iload 6, 2) := by decide +kernel
theorem dL_target_104 : decode cL_target 104 = .ok (.iconst 1, 1) := by decide +kernel
theorem dL_target_105 : decode cL_target 105 = .ok (.if_icmp .ne 11, 3) := by decide +kernel
theorem dL_target_108 : decode cL_target 108 = .ok (.iload 8, 2) := by decide +kernel
theorem dL_target_110 : decode cL_target 110 = .ok (.ifCond .lt 15, 3) := by decide +kernel
theorem dL_target_113 : decode cL_target 113 = .ok (.goto 8, 3) := by decide +kernel
theorem dL_target_116 : decode cL_target 116 = .ok (.iload 8, 2) := by decide +kernel
theorem dL_target_118 : decode cL_target 118 = .ok (.ifCond .gt 7, 3) := by decide +kernel
theorem dL_target_121 : decode cL_target 121 = .ok (.iconst 1, 1) := by decide +kernel
theorem dL_target_122 : decode cL_target 122 = .ok (.goto 4, 3) := by decide +kernel
theorem dL_target_125 : decode cL_target 125 = .ok (.iconst 0, 1) := by decide +kernel
theorem dL_target_126 : decode cL_target 126 = .ok (.istore 10, 2) := by decide +kernel
theorem dL_target_128 : decode cL_target 128 = .ok (.iload 10, 2) := by decide +kernel
theorem dL_target_130 : decode cL_target 130 = .ok (.ifCond .eq 30, 3) := by decide +kernel
theorem dL_target_133 : decode cL_target 133 = .ok (.iload 9, 2) := by decide +kernel
theorem dL_target_135 : decode cL_target 135 = .ok (.iload 4, 2) := by decide +kernel
theorem dL_target_137 : decode cL_target 137 = .ok (.if_icmp .ge 23, 3) := by decide +kernel
theorem dL_target_140 : decode cL_target 140 = .ok (.iload 7, 2) := by decide +kernel
theorem dL_target_142 : decode cL_target 142 = .ok (.iload 5, 2) := by decide +kernel
theorem dL_target_144 : decode cL_target 144 = .ok (.iconst 1, 1) := by decide +kernel
theorem dL_target_145 : decode cL_target 145 = .ok (.if_icmp .ne 8, 3) := by decide +kernel
theorem dL_target_148 : decode cL_target 148 = .ok (.bipush 100, 2) := by decide +kernel
theorem dL_target_150 : decode cL_target 150 = .ok (.goto 4, 3) := by decide +kernel
theorem dL_target_153 : decode cL_target 153 = .ok (.iconst 0, 1) := by decide +kernel
theorem dL_target_154 : decode cL_target 154 = .ok (.iadd, 1) := by decide +kernel
theorem dL_target_155 : decode cL_target 155 = .ok (.istore_n 3, 1) := by decide +kernel
theorem dL_target_156 : decode cL_target 156 = .ok (.iload 9, 2) := by decide +kernel
theorem dL_target_158 : decode cL_target 158 = .ok (.istore 4, 2) := by decide +kernel
theorem dL_target_160 : decode cL_target 160 = .ok (.iinc 7 1, 3) := by decide +kernel
theorem dL_target_163 : decode cL_target 163 = .ok (.goto (-121), 3) := by decide +kernel
theorem dL_target_166 : decode cL_target 166 = .ok (.iinc 5 1, 3) := by decide +kernel
theorem dL_target_169 : decode cL_target 169 = .ok (.goto (-160), 3) := by decide +kernel
theorem dL_target_172 : decode cL_target 172 = .ok (.iload_n 3, 1) := by decide +kernel
theorem dL_target_173 : decode cL_target 173 = .ok (.ireturn, 1) := by decide +kernel
theorem cc_L_target_L_size : CallC tL_target tL_size 1 := ⟨by decide +kernel, by decide +kernel, by decide +kernel, by decide, by decide, qw_14, qw_594⟩
def kL_target : Nat → WOp := cN 75 (cN 39 (cN 19 (cN 7 (cN 2 (cN 0 (cL 0 (o_push 1 (-1))) (cN 1 (cL 1 (o_istore 2 3)) (cL 2 (o_push 4 999999)))) (cN 4 (cL 4 (o_istore 6 4)) (cN 6 (cL 6 (o_push 7 0)) (cL 7 (o_istore 9 5))))) (cN 12 (cN 9 (cL 9 (o_iload 11 5)) (cN 11 (cL 11 (o_push 12 2)) (cL 12 (o_icmp_ge 172 15)))) (cN 15 (cL 15 (o_iload 16 3)) (cN 16 (cL 16 (o_if_ge 172 19)) (cL 19 (o_iload 21 5)))))) (cN 31 (cN 25 (cN 21 (cL 21 (o_if_ne 31 24)) (cN 24 (cL 24 (o_aload 25 0)) (cL 25 (o_push 27 20)))) (cN 27 (cL 27 (o_iald 28)) (cN 28 (cL 28 (o_goto 37)) (cL 31 (o_push 32 3))))) (cN 35 (cN 32 (cL 32 (o_aload 33 0)) (cN 33 (cL 33 (o_push 35 20)) (cL 35 (o_iald 36)))) (cN 36 (cL 36 (o_isub 37)) (cN 37 (cL 37 (o_istore 39 6)) (cL 39 (o_push 40 0))))))) (cN 57 (cN 48 (cN 44 (cN 40 (cL 40 (o_istore 42 7)) (cN 42 (cL 42 (o_iload 44 7)) (cL 44 (o_aload 45 0)))) (cN 45 (cL 45 (o_push 47 21)) (cN 47 (cL 47 (o_iald 48)) (cL 48 (o_icmp_ge 166 51))))) (cN 53 (cN 51 (cL 51 (o_aload 52 1)) (cN 52 (cL 52 (o_push 53 5)) (cL 53 (o_iload 55 7)))) (cN 55 (cL 55 (o_imul 56)) (cN 56 (cL 56 (o_push 57 1)) (cL 57 (o_iadd 58)))))) (cN 64 (cN 60 (cN 58 (cL 58 (o_iald 59)) (cN 59 (cL 59 (o_aload 60 0)) (cL 60 (o_push 62 16)))) (cN 62 (cL 62 (o_iald 63)) (cN 63 (cL 63 (o_isub 64)) (cL 64 (o_istore 66 8))))) (cN 70 (cN 66 (cL 66 (o_iload 67 2)) (cN 67 (cL 67 (o_if_ne 74 70)) (cL 70 (o_push 71 0)))) (cN 71 (cL 71 (o_goto 95)) (cN 74 (cL 74 (o_iload 75 2)) (cL 75 (o_push 76 3)))))))) (cN 121 (cN 95 (cN 84 (cN 80 (cN 76 (cL 76 (o_icmp_ne 90 79)) (cN 79 (cL 79 (o_aload 80 1)) (cL 80 (o_push 81 5)))) (cN 81 (cL 81 (o_iload 83 7)) (cN 83 (cL 83 (o_imul 84)) (cL 84 (o_push 85 3))))) (cN 87 (cN 85 (cL 85 (o_iadd 86)) (cN 86 (cL 86 (o_iald 87)) (cL 87 (o_goto 95)))) (cN 90 (cL 90 (o_iload 92 8)) (cN 92 (cL 92 (o_callS 95 1 tL_size 0 0)) (cL 95 (o_istore 97 9)))))) (cN 105 (cN 99 (cN 97 (cL 97 (o_iload 98 2)) (cN 98 (cL 98 (o_push 99 1)) (cL 99 (o_icmp_ne 121 102)))) (cN 102 (cL 102 (o_iload 104 6)) (cN 104 (cL 104 (o_push 105 1)) (cL 105 (o_icmp_ne 116 108))))) (cN 113 (cN 108 (cL 108 (o_iload 110 8)) (cN 110 (cL 110 (o_if_lt 125 113)) (cL 113 (o_goto 121)))) (cN 116 (cL 116 (o_iload 118 8)) (cN 118 (cL 118 (o_if_gt 125 121)) (cL 121 (o_push 122 1))))))) (cN 145 (cN 133 (cN 126 (cN 122 (cL 122 (o_goto 126)) (cN 125 (cL 125 (o_push 126 0)) (cL 126 (o_istore 128 10)))) (cN 128 (cL 128 (o_iload 130 10)) (cN 130 (cL 130 (o_if_eq 160 133)) (cL 133 (o_iload 135 9))))) (cN 140 (cN 135 (cL 135 (o_iload 137 4)) (cN 137 (cL 137 (o_icmp_ge 160 140)) (cL 140 (o_iload 142 7)))) (cN 142 (cL 142 (o_iload 144 5)) (cN 144 (cL 144 (o_push 145 1)) (cL 145 (o_icmp_ne 153 148)))))) (cN 156 (cN 153 (cN 148 (cL 148 (o_push 150 100)) (cN 150 (cL 150 (o_goto 154)) (cL 153 (o_push 154 0)))) (cN 154 (cL 154 (o_iadd 155)) (cN 155 (cL 155 (o_istore 156 3)) (cL 156 (o_iload 158 9))))) (cN 163 (cN 158 (cL 158 (o_istore 160 4)) (cN 160 (cL 160 (o_iinc 163 7 1)) (cL 163 (o_goto 42)))) (cN 169 (cN 166 (cL 166 (o_iinc 169 5 1)) (cL 169 (o_goto 9))) (cN 172 (cL 172 (o_iload 173 3)) (cL 173 (o_iret))))))))
theorem sL_target : ∀ pc, Snd tL_target G1 pc (kL_target pc) := s_N (s_N (s_N (s_N (s_N (s_N (s_L (s_iconst dL_target_0 (by decide +kernel))) (s_N (s_L (s_istore_n dL_target_1 rfl (by decide))) (s_L (s_ldc dL_target_2 qw_591)))) (s_N (s_L (s_istore dL_target_4 (by decide))) (s_N (s_L (s_iconst dL_target_6 (by decide +kernel))) (s_L (s_istore dL_target_7 (by decide)))))) (s_N (s_N (s_L (s_iload dL_target_9)) (s_N (s_L (s_iconst dL_target_11 (by decide +kernel))) (s_L (s_o_icmp_ge dL_target_12 (by decide))))) (s_N (s_L (s_iload_n dL_target_15 rfl)) (s_N (s_L (s_o_if_ge dL_target_16 (by decide))) (s_L (s_iload dL_target_19)))))) (s_N (s_N (s_N (s_L (s_o_if_ne dL_target_21 (by decide))) (s_N (s_L (s_aload_n dL_target_24 rfl)) (s_L (s_bipush dL_target_25 (by decide +kernel))))) (s_N (s_L (s_iald dL_target_27)) (s_N (s_L (s_o_goto dL_target_28 (by decide))) (s_L (s_iconst dL_target_31 (by decide +kernel)))))) (s_N (s_N (s_L (s_aload_n dL_target_32 rfl)) (s_N (s_L (s_bipush dL_target_33 (by decide +kernel))) (s_L (s_iald dL_target_35)))) (s_N (s_L (s_o_isub dL_target_36)) (s_N (s_L (s_istore dL_target_37 (by decide))) (s_L (s_iconst dL_target_39 (by decide +kernel)))))))) (s_N (s_N (s_N (s_N (s_L (s_istore dL_target_40 (by decide))) (s_N (s_L (s_iload dL_target_42)) (s_L (s_aload_n dL_target_44 rfl)))) (s_N (s_L (s_bipush dL_target_45 (by decide +kernel))) (s_N (s_L (s_iald dL_target_47)) (s_L (s_o_icmp_ge dL_target_48 (by decide)))))) (s_N (s_N (s_L (s_aload_n dL_target_51 rfl)) (s_N (s_L (s_iconst dL_target_52 (by decide +kernel))) (s_L (s_iload dL_target_53)))) (s_N (s_L (s_o_imul dL_target_55)) (s_N (s_L (s_iconst dL_target_56 (by decide +kernel))) (s_L (s_o_iadd dL_target_57)))))) (s_N (s_N (s_N (s_L (s_iald dL_target_58)) (s_N (s_L (s_aload_n dL_target_59 rfl)) (s_L (s_bipush dL_target_60 (by decide +kernel))))) (s_N (s_L (s_iald dL_target_62)) (s_N (s_L (s_o_isub dL_target_63)) (s_L (s_istore dL_target_64 (by decide)))))) (s_N (s_N (s_L (s_iload_n dL_target_66 rfl)) (s_N (s_L (s_o_if_ne dL_target_67 (by decide))) (s_L (s_iconst dL_target_70 (by decide +kernel))))) (s_N (s_L (s_o_goto dL_target_71 (by decide))) (s_N (s_L (s_iload_n dL_target_74 rfl)) (s_L (s_iconst dL_target_75 (by decide +kernel))))))))) (s_N (s_N (s_N (s_N (s_N (s_L (s_o_icmp_ne dL_target_76 (by decide))) (s_N (s_L (s_aload_n dL_target_79 rfl)) (s_L (s_iconst dL_target_80 (by decide +kernel))))) (s_N (s_L (s_iload dL_target_81)) (s_N (s_L (s_o_imul dL_target_83)) (s_L (s_iconst dL_target_84 (by decide +kernel)))))) (s_N (s_N (s_L (s_o_iadd dL_target_85)) (s_N (s_L (s_iald dL_target_86)) (s_L (s_o_goto dL_target_87 (by decide))))) (s_N (s_L (s_iload dL_target_90)) (s_N (s_L (s_callS (d' := tL_size) (mc := 0) (ms := 0) cc_L_target_L_size qw_592 qw_593 dL_target_92)) (s_L (s_istore dL_target_95 (by decide))))))) (s_N (s_N (s_N (s_L (s_iload_n dL_target_97 rfl)) (s_N (s_L (s_iconst dL_target_98 (by decide +kernel))) (s_L (s_o_icmp_ne dL_target_99 (by decide))))) (s_N (s_L (s_iload dL_target_102)) (s_N (s_L (s_iconst dL_target_104 (by decide +kernel))) (s_L (s_o_icmp_ne dL_target_105 (by decide)))))) (s_N (s_N (s_L (s_iload dL_target_108)) (s_N (s_L (s_o_if_lt dL_target_110 (by decide))) (s_L (s_o_goto dL_target_113 (by decide))))) (s_N (s_L (s_iload dL_target_116)) (s_N (s_L (s_o_if_gt dL_target_118 (by decide))) (s_L (s_iconst dL_target_121 (by decide +kernel)))))))) (s_N (s_N (s_N (s_N (s_L (s_o_goto dL_target_122 (by decide))) (s_N (s_L (s_iconst dL_target_125 (by decide +kernel))) (s_L (s_istore dL_target_126 (by decide))))) (s_N (s_L (s_iload dL_target_128)) (s_N (s_L (s_o_if_eq dL_target_130 (by decide))) (s_L (s_iload dL_target_133))))) (s_N (s_N (s_L (s_iload dL_target_135)) (s_N (s_L (s_o_icmp_ge dL_target_137 (by decide))) (s_L (s_iload dL_target_140)))) (s_N (s_L (s_iload dL_target_142)) (s_N (s_L (s_iconst dL_target_144 (by decide +kernel))) (s_L (s_o_icmp_ne dL_target_145 (by decide))))))) (s_N (s_N (s_N (s_L (s_bipush dL_target_148 (by decide +kernel))) (s_N (s_L (s_o_goto dL_target_150 (by decide))) (s_L (s_iconst dL_target_153 (by decide +kernel))))) (s_N (s_L (s_o_iadd dL_target_154)) (s_N (s_L (s_istore_n dL_target_155 rfl (by decide))) (s_L (s_iload dL_target_156))))) (s_N (s_N (s_L (s_istore dL_target_158 (by decide))) (s_N (s_L (s_iinc (v := 1) dL_target_160 (by decide +kernel) (by decide))) (s_L (s_o_goto dL_target_163 (by decide))))) (s_N (s_N (s_L (s_iinc (v := 1) dL_target_166 (by decide +kernel) (by decide))) (s_L (s_o_goto dL_target_169 (by decide)))) (s_N (s_L (s_iload_n dL_target_172 rfl)) (s_L (s_iret rfl dL_target_173))))))))
/-! L_gone -/
def tL_gone : TrD := (yL_gone, cL_gone, 4, none, 0, 0)
theorem dL_gone_0 : decode cL_gone 0 = .ok (.aload_n 0, 1) := by decide +kernel
theorem dL_gone_1 : decode cL_gone 1 = .ok (.bipush 21, 2) := by decide +kernel
theorem dL_gone_3 : decode cL_gone 3 = .ok (.dup2, 1) := by decide +kernel
theorem dL_gone_4 : decode cL_gone 4 = .ok (.iaload, 1) := by decide +kernel
theorem dL_gone_5 : decode cL_gone 5 = .ok (.iconst 1, 1) := by decide +kernel
theorem dL_gone_6 : decode cL_gone 6 = .ok (.isub, 1) := by decide +kernel
theorem dL_gone_7 : decode cL_gone 7 = .ok (.iastore, 1) := by decide +kernel
theorem dL_gone_8 : decode cL_gone 8 = .ok (.iconst 5, 1) := by decide +kernel
theorem dL_gone_9 : decode cL_gone 9 = .ok (.iload_n 2, 1) := by decide +kernel
theorem dL_gone_10 : decode cL_gone 10 = .ok (.imul, 1) := by decide +kernel
theorem dL_gone_11 : decode cL_gone 11 = .ok (.istore_n 3, 1) := by decide +kernel
theorem dL_gone_12 : decode cL_gone 12 = .ok (.iload_n 3, 1) := by decide +kernel
theorem dL_gone_13 : decode cL_gone 13 = .ok (.iconst 5, 1) := by decide +kernel
theorem dL_gone_14 : decode cL_gone 14 = .ok (.aload_n 0, 1) := by decide +kernel
theorem dL_gone_15 : decode cL_gone 15 = .ok (.bipush 21, 2) := by decide +kernel
theorem dL_gone_17 : decode cL_gone 17 = .ok (.iaload, 1) := by decide +kernel
theorem dL_gone_18 : decode cL_gone 18 = .ok (.imul, 1) := by decide +kernel
theorem dL_gone_19 : decode cL_gone 19 = .ok (.if_icmp .ge 17, 3) := by decide +kernel
theorem dL_gone_22 : decode cL_gone 22 = .ok (.aload_n 1, 1) := by decide +kernel
theorem dL_gone_23 : decode cL_gone 23 = .ok (.iload_n 3, 1) := by decide +kernel
theorem dL_gone_24 : decode cL_gone 24 = .ok (.aload_n 1, 1) := by decide +kernel
theorem dL_gone_25 : decode cL_gone 25 = .ok (.iload_n 3, 1) := by decide +kernel
theorem dL_gone_26 : decode cL_gone 26 = .ok (.iconst 5, 1) := by decide +kernel
theorem dL_gone_27 : decode cL_gone 27 = .ok (.iadd, 1) := by decide +kernel
theorem dL_gone_28 : decode cL_gone 28 = .ok (.iaload, 1) := by decide +kernel
theorem dL_gone_29 : decode cL_gone 29 = .ok (.iastore, 1) := by decide +kernel
theorem dL_gone_30 : decode cL_gone 30 = .ok (.iinc 3 1, 3) := by decide +kernel
theorem dL_gone_33 : decode cL_gone 33 = .ok (.goto (-21), 3) := by decide +kernel
theorem dL_gone_36 : decode cL_gone 36 = .ok (.return_, 1) := by decide +kernel
def kL_gone : Nat → WOp := cN 14 (cN 7 (cN 3 (cN 0 (cL 0 (o_aload 1 0)) (cN 1 (cL 1 (o_push 3 21)) (cL 3 (o_dup2 4)))) (cN 5 (cN 4 (cL 4 (o_iald 5)) (cL 5 (o_push 6 1))) (cN 6 (cL 6 (o_isub 7)) (cL 7 (o_iast 8))))) (cN 10 (cN 8 (cL 8 (o_push 9 5)) (cN 9 (cL 9 (o_iload 10 2)) (cL 10 (o_imul 11)))) (cN 12 (cN 11 (cL 11 (o_istore 12 3)) (cL 12 (o_iload 13 3))) (cN 13 (cL 13 (o_push 14 5)) (cL 14 (o_aload 15 0)))))) (cN 24 (cN 18 (cN 15 (cL 15 (o_push 17 21)) (cN 17 (cL 17 (o_iald 18)) (cL 18 (o_imul 19)))) (cN 22 (cN 19 (cL 19 (o_icmp_ge 36 22)) (cL 22 (o_aload 23 1))) (cN 23 (cL 23 (o_iload 24 3)) (cL 24 (o_aload 25 1))))) (cN 28 (cN 26 (cN 25 (cL 25 (o_iload 26 3)) (cL 26 (o_push 27 5))) (cN 27 (cL 27 (o_iadd 28)) (cL 28 (o_iald 29)))) (cN 30 (cN 29 (cL 29 (o_iast 30)) (cL 30 (o_iinc 33 3 1))) (cN 33 (cL 33 (o_goto 12)) (cL 36 (o_vret))))))
theorem sL_gone : ∀ pc, Snd tL_gone G1 pc (kL_gone pc) := s_N (s_N (s_N (s_N (s_L (s_aload_n dL_gone_0 rfl)) (s_N (s_L (s_bipush dL_gone_1 (by decide +kernel))) (s_L (s_o_dup2 dL_gone_3)))) (s_N (s_N (s_L (s_iald dL_gone_4)) (s_L (s_iconst dL_gone_5 (by decide +kernel)))) (s_N (s_L (s_o_isub dL_gone_6)) (s_L (s_iast dL_gone_7))))) (s_N (s_N (s_L (s_iconst dL_gone_8 (by decide +kernel))) (s_N (s_L (s_iload_n dL_gone_9 rfl)) (s_L (s_o_imul dL_gone_10)))) (s_N (s_N (s_L (s_istore_n dL_gone_11 rfl (by decide))) (s_L (s_iload_n dL_gone_12 rfl))) (s_N (s_L (s_iconst dL_gone_13 (by decide +kernel))) (s_L (s_aload_n dL_gone_14 rfl)))))) (s_N (s_N (s_N (s_L (s_bipush dL_gone_15 (by decide +kernel))) (s_N (s_L (s_iald dL_gone_17)) (s_L (s_o_imul dL_gone_18)))) (s_N (s_N (s_L (s_o_icmp_ge dL_gone_19 (by decide))) (s_L (s_aload_n dL_gone_22 rfl))) (s_N (s_L (s_iload_n dL_gone_23 rfl)) (s_L (s_aload_n dL_gone_24 rfl))))) (s_N (s_N (s_N (s_L (s_iload_n dL_gone_25 rfl)) (s_L (s_iconst dL_gone_26 (by decide +kernel)))) (s_N (s_L (s_o_iadd dL_gone_27)) (s_L (s_iald dL_gone_28)))) (s_N (s_N (s_L (s_iast dL_gone_29)) (s_L (s_iinc (v := 1) dL_gone_30 (by decide +kernel) (by decide)))) (s_N (s_L (s_o_goto dL_gone_33 (by decide))) (s_L (s_vret rfl dL_gone_36))))))
/-! L_tick -/
def tL_tick : TrD := (yL_tick, cL_tick, 11, some .boolean, 2, 50)
theorem dL_tick_0 : decode cL_tick 0 = .ok (.aload_n 0, 1) := by decide +kernel
theorem dL_tick_1 : decode cL_tick 1 = .ok (.aload_n 1, 1) := by decide +kernel
theorem dL_tick_2 : decode cL_tick 2 = .ok (.aload_n 0, 1) := by decide +kernel
theorem dL_tick_3 : decode cL_tick 3 = .ok (.iconst 2, 1) := by decide +kernel
theorem dL_tick_4 : decode cL_tick 4 = .ok (.iaload, 1) := by decide +kernel
theorem dL_tick_5 : decode cL_tick 5 = .ok (.invokestatic 48, 3) := by decide +kernel
theorem dL_tick_8 : decode cL_tick 8 = .ok (.istore 4, 2) := by decide +kernel
theorem dL_tick_10 : decode cL_tick 10 = .ok (.iconst 0, 1) := by decide +kernel
theorem dL_tick_11 : decode cL_tick 11 = .ok (.istore 5, 2) := by decide +kernel
theorem dL_tick_13 : decode cL_tick 13 = .ok (.iload 4, 2) := by decide +kernel
theorem dL_tick_15 : decode cL_tick 15 = .ok (.bipush 99, 2) := by decide +kernel
theorem dL_tick_17 : decode cL_tick 17 = .ok (.if_icmp .le 16, 3) := by decide +kernel
theorem dL_tick_20 : decode cL_tick 20 = .ok (.iinc 4 (-100), 3) := by decide +kernel
theorem dL_tick_23 : decode cL_tick 23 = .ok (.aload_n 0, 1) := by decide +kernel
theorem dL_tick_24 : decode cL_tick 24 = .ok (.bipush 20, 2) := by decide +kernel
theorem dL_tick_26 : decode cL_tick 26 = .ok (.iconst 3, 1) := by decide +kernel
theorem dL_tick_27 : decode cL_tick 27 = .ok (.aload_n 0, 1) := by decide +kernel
theorem dL_tick_28 : decode cL_tick 28 = .ok (.bipush 20, 2) := by decide +kernel
theorem dL_tick_30 : decode cL_tick 30 = .ok (.iaload, 1) := by decide +kernel
theorem dL_tick_31 : decode cL_tick 31 = .ok (.isub, 1) := by decide +kernel
theorem dL_tick_32 : decode cL_tick 32 = .ok (.iastore, 1) := by decide +kernel
theorem dL_tick_33 : decode cL_tick 33 = .ok (.iload 4, 2) := by decide +kernel
theorem dL_tick_35 : decode cL_tick 35 = .ok (.ifCond .ge 7, 3) := by decide +kernel
theorem dL_tick_38 : decode cL_tick 38 = .ok (.iconst 0, 1) := by decide +kernel
theorem dL_tick_39 : decode cL_tick 39 = .ok (.goto 16, 3) := by decide +kernel
theorem dL_tick_42 : decode cL_tick 42 = .ok (.aload_n 1, 1) := by decide +kernel
theorem dL_tick_43 : decode cL_tick 43 = .ok (.iconst 5, 1) := by decide +kernel
theorem dL_tick_44 : decode cL_tick 44 = .ok (.iload 4, 2) := by decide +kernel
theorem dL_tick_46 : decode cL_tick 46 = .ok (.imul, 1) := by decide +kernel
theorem dL_tick_47 : decode cL_tick 47 = .ok (.iconst 1, 1) := by decide +kernel
theorem dL_tick_48 : decode cL_tick 48 = .ok (.iadd, 1) := by decide +kernel
theorem dL_tick_49 : decode cL_tick 49 = .ok (.iaload, 1) := by decide +kernel
theorem dL_tick_50 : decode cL_tick 50 = .ok (.aload_n 0, 1) := by decide +kernel
theorem dL_tick_51 : decode cL_tick 51 = .ok (.bipush 16, 2) := by decide +kernel
theorem dL_tick_53 : decode cL_tick 53 = .ok (.iaload, 1) := by decide +kernel
theorem dL_tick_54 : decode cL_tick 54 = .ok (.isub, 1) := by decide +kernel
theorem dL_tick_55 : decode cL_tick 55 = .ok (.istore 6, 2) := by decide +kernel
theorem dL_tick_57 : decode cL_tick 57 = .ok (.aload_n 0, 1) := by decide +kernel
theorem dL_tick_58 : decode cL_tick 58 = .ok (.bipush 17, 2) := by decide +kernel
theorem dL_tick_60 : decode cL_tick 60 = .ok (.iaload, 1) := by decide +kernel
theorem dL_tick_61 : decode cL_tick 61 = .ok (.istore 7, 2) := by decide +kernel
theorem dL_tick_63 : decode cL_tick 63 = .ok (.aload_n 0, 1) := by decide +kernel
theorem dL_tick_64 : decode cL_tick 64 = .ok (.bipush 14, 2) := by decide +kernel
theorem dL_tick_66 : decode cL_tick 66 = .ok (.dup2, 1) := by decide +kernel
theorem dL_tick_67 : decode cL_tick 67 = .ok (.iaload, 1) := by decide +kernel
theorem dL_tick_68 : decode cL_tick 68 = .ok (.aload_n 0, 1) := by decide +kernel
theorem dL_tick_69 : decode cL_tick 69 = .ok (.bipush 19, 2) := by decide +kernel
theorem dL_tick_71 : decode cL_tick 71 = .ok (.iaload, 1) := by decide +kernel
theorem dL_tick_72 : decode cL_tick 72 = .ok (.iadd, 1) := by decide +kernel
theorem dL_tick_73 : decode cL_tick 73 = .ok (.iastore, 1) := by decide +kernel
theorem dL_tick_74 : decode cL_tick 74 = .ok (.iload 7, 2) := by decide +kernel
theorem dL_tick_76 : decode cL_tick 76 = .ok (.iconst 1, 1) := by decide +kernel
theorem dL_tick_77 : decode cL_tick 77 = .ok (.if_icmp .ne 16, 3) := by decide +kernel
theorem dL_tick_80 : decode cL_tick 80 = .ok (.iload 6, 2) := by decide +kernel
theorem dL_tick_82 : decode cL_tick 82 = .ok (.ifCond .le 7, 3) := by decide +kernel
theorem dL_tick_85 : decode cL_tick 85 = .ok (.iconst 1, 1) := by decide +kernel
theorem dL_tick_86 : decode cL_tick 86 = .ok (.goto 43, 3) := by decide +kernel
theorem dL_tick_89 : decode cL_tick 89 = .ok (.iconst 0, 1) := by decide +kernel
theorem dL_tick_90 : decode cL_tick 90 = .ok (.goto 39, 3) := by decide +kernel
theorem dL_tick_93 : decode cL_tick 93 = .ok (.iload 7, 2) := by decide +kernel
theorem dL_tick_95 : decode cL_tick 95 = .ok (.iconst 2, 1) := by decide +kernel
theorem dL_tick_96 : decode cL_tick 96 = .ok (.if_icmp .ne 16, 3) := by decide +kernel
theorem dL_tick_99 : decode cL_tick 99 = .ok (.iload 6, 2) := by decide +kernel
theorem dL_tick_101 : decode cL_tick 101 = .ok (.ifCond .ge 7, 3) := by decide +kernel
theorem dL_tick_104 : decode cL_tick 104 = .ok (.iconst 1, 1) := by decide +kernel
theorem dL_tick_105 : decode cL_tick 105 = .ok (.goto 24, 3) := by decide +kernel
theorem dL_tick_108 : decode cL_tick 108 = .ok (.iconst 0, 1) := by decide +kernel
theorem dL_tick_109 : decode cL_tick 109 = .ok (.goto 20, 3) := by decide +kernel
theorem dL_tick_112 : decode cL_tick 112 = .ok (.iload 6, 2) := by decide +kernel
theorem dL_tick_114 : decode cL_tick 114 = .ok (.ifCond .eq 14, 3) := by decide +kernel
theorem dL_tick_117 : decode cL_tick 117 = .ok (.aload_n 0, 1) := by decide +kernel
theorem dL_tick_118 : decode cL_tick 118 = .ok (.bipush 19, 2) := by decide +kernel
theorem dL_tick_120 : decode cL_tick 120 = .ok (.iaload, 1) := by decide +kernel
theorem dL_tick_121 : decode cL_tick 121 = .ok (.ifCond .ne 7, 3) := by decide +kernel
theorem dL_tick_124 : decode cL_tick 124 = .ok (.iconst 1, 1) := by decide +kernel
theorem dL_tick_125 : decode cL_tick 125 = .ok (.goto 4, 3) := by decide +kernel
theorem dL_tick_128 : decode cL_tick 128 = .ok (.iconst 0, 1) := by decide +kernel
theorem dL_tick_129 : decode cL_tick 129 = .ok (.istore 8, 2) := by decide +kernel
theorem dL_tick_131 : decode cL_tick 131 = .ok (.iload 8, 2) := by decide +kernel
theorem dL_tick_133 : decode cL_tick 133 = .ok (.ifCond .eq 79, 3) := by decide +kernel
theorem dL_tick_136 : decode cL_tick 136 = .ok (.aload_n 0, 1) := by decide +kernel
theorem dL_tick_137 : decode cL_tick 137 = .ok (.bipush 12, 2) := by decide +kernel
theorem dL_tick_139 : decode cL_tick 139 = .ok (.dup2, 1) := by decide +kernel
theorem dL_tick_140 : decode cL_tick 140 = .ok (.iaload, 1) := by decide +kernel
theorem dL_tick_141 : decode cL_tick 141 = .ok (.iload 7, 2) := by decide +kernel
theorem dL_tick_143 : decode cL_tick 143 = .ok (.ifCond .ne 7, 3) := by decide +kernel
theorem dL_tick_146 : decode cL_tick 146 = .ok (.iconst 1, 1) := by decide +kernel
theorem dL_tick_147 : decode cL_tick 147 = .ok (.goto 4, 3) := by decide +kernel
theorem dL_tick_150 : decode cL_tick 150 = .ok (.iconst 0, 1) := by decide +kernel
theorem dL_tick_151 : decode cL_tick 151 = .ok (.iadd, 1) := by decide +kernel
theorem dL_tick_152 : decode cL_tick 152 = .ok (.iastore, 1) := by decide +kernel
theorem dL_tick_153 : decode cL_tick 153 = .ok (.aload_n 0, 1) := by decide +kernel
theorem dL_tick_154 : decode cL_tick 154 = .ok (.bipush 18, 2) := by decide +kernel
theorem dL_tick_156 : decode cL_tick 156 = .ok (.dup2, 1) := by decide +kernel
theorem dL_tick_157 : decode cL_tick 157 = .ok (.iaload, 1) := by decide +kernel
theorem dL_tick_158 : decode cL_tick 158 = .ok (.iload 7, 2) := by decide +kernel
theorem dL_tick_160 : decode cL_tick 160 = .ok (.ifCond .ne 7, 3) := by decide +kernel
theorem dL_tick_163 : decode cL_tick 163 = .ok (.iconst 2, 1) := by decide +kernel
theorem dL_tick_164 : decode cL_tick 164 = .ok (.goto 4, 3) := by decide +kernel
theorem dL_tick_167 : decode cL_tick 167 = .ok (.iconst 1, 1) := by decide +kernel
theorem dL_tick_168 : decode cL_tick 168 = .ok (.iadd, 1) := by decide +kernel
theorem dL_tick_169 : decode cL_tick 169 = .ok (.iastore, 1) := by decide +kernel
theorem dL_tick_170 : decode cL_tick 170 = .ok (.aload_n 0, 1) := by decide +kernel
theorem dL_tick_171 : decode cL_tick 171 = .ok (.bipush 17, 2) := by decide +kernel
theorem dL_tick_173 : decode cL_tick 173 = .ok (.iload 6, 2) := by decide +kernel
theorem dL_tick_175 : decode cL_tick 175 = .ok (.ifCond .le 7, 3) := by decide +kernel
theorem dL_tick_178 : decode cL_tick 178 = .ok (.iconst 1, 1) := by decide +kernel
theorem dL_tick_179 : decode cL_tick 179 = .ok (.goto 4, 3) := by decide +kernel
theorem dL_tick_182 : decode cL_tick 182 = .ok (.iconst 2, 1) := by decide +kernel
theorem dL_tick_183 : decode cL_tick 183 = .ok (.iastore, 1) := by decide +kernel
theorem dL_tick_184 : decode cL_tick 184 = .ok (.aload_n 0, 1) := by decide +kernel
theorem dL_tick_185 : decode cL_tick 185 = .ok (.bipush 16, 2) := by decide +kernel
theorem dL_tick_187 : decode cL_tick 187 = .ok (.dup2, 1) := by decide +kernel
theorem dL_tick_188 : decode cL_tick 188 = .ok (.iaload, 1) := by decide +kernel
theorem dL_tick_189 : decode cL_tick 189 = .ok (.iload 6, 2) := by decide +kernel
theorem dL_tick_191 : decode cL_tick 191 = .ok (.ifCond .le 7, 3) := by decide +kernel
theorem dL_tick_194 : decode cL_tick 194 = .ok (.iconst 1, 1) := by decide +kernel
theorem dL_tick_195 : decode cL_tick 195 = .ok (.goto 4, 3) := by decide +kernel
theorem dL_tick_198 : decode cL_tick 198 = .ok (.iconst (-1), 1) := by decide +kernel
theorem dL_tick_199 : decode cL_tick 199 = .ok (.iadd, 1) := by decide +kernel
theorem dL_tick_200 : decode cL_tick 200 = .ok (.iastore, 1) := by decide +kernel
theorem dL_tick_201 : decode cL_tick 201 = .ok (.aload_n 0, 1) := by decide +kernel
theorem dL_tick_202 : decode cL_tick 202 = .ok (.bipush 11, 2) := by decide +kernel
theorem dL_tick_204 : decode cL_tick 204 = .ok (.dup2, 1) := by decide +kernel
theorem dL_tick_205 : decode cL_tick 205 = .ok (.iaload, 1) := by decide +kernel
theorem dL_tick_206 : decode cL_tick 206 = .ok (.iconst 1, 1) := by decide +kernel
theorem dL_tick_207 : decode cL_tick 207 = .ok (.iadd, 1) := by decide +kernel
theorem dL_tick_208 : decode cL_tick 208 = .ok (.iastore, 1) := by decide +kernel
theorem dL_tick_209 : decode cL_tick 209 = .ok (.goto 31, 3) := by decide +kernel
theorem dL_tick_212 : decode cL_tick 212 = .ok (.iload 7, 2) := by decide +kernel
theorem dL_tick_214 : decode cL_tick 214 = .ok (.ifCond .le 26, 3) := by decide +kernel
theorem dL_tick_217 : decode cL_tick 217 = .ok (.aload_n 0, 1) := by decide +kernel
theorem dL_tick_218 : decode cL_tick 218 = .ok (.bipush 17, 2) := by decide +kernel
theorem dL_tick_220 : decode cL_tick 220 = .ok (.iconst 0, 1) := by decide +kernel
theorem dL_tick_221 : decode cL_tick 221 = .ok (.iastore, 1) := by decide +kernel
theorem dL_tick_222 : decode cL_tick 222 = .ok (.aload_n 0, 1) := by decide +kernel
theorem dL_tick_223 : decode cL_tick 223 = .ok (.bipush 18, 2) := by decide +kernel
theorem dL_tick_225 : decode cL_tick 225 = .ok (.dup2, 1) := by decide +kernel
theorem dL_tick_226 : decode cL_tick 226 = .ok (.iaload, 1) := by decide +kernel
theorem dL_tick_227 : decode cL_tick 227 = .ok (.aload_n 0, 1) := by decide +kernel
theorem dL_tick_228 : decode cL_tick 228 = .ok (.iconst 3, 1) := by decide +kernel
theorem dL_tick_229 : decode cL_tick 229 = .ok (.iaload, 1) := by decide +kernel
theorem dL_tick_230 : decode cL_tick 230 = .ok (.iadd, 1) := by decide +kernel
theorem dL_tick_231 : decode cL_tick 231 = .ok (.iastore, 1) := by decide +kernel
theorem dL_tick_232 : decode cL_tick 232 = .ok (.aload_n 0, 1) := by decide +kernel
theorem dL_tick_233 : decode cL_tick 233 = .ok (.bipush 13, 2) := by decide +kernel
theorem dL_tick_235 : decode cL_tick 235 = .ok (.dup2, 1) := by decide +kernel
theorem dL_tick_236 : decode cL_tick 236 = .ok (.iaload, 1) := by decide +kernel
theorem dL_tick_237 : decode cL_tick 237 = .ok (.iconst 1, 1) := by decide +kernel
theorem dL_tick_238 : decode cL_tick 238 = .ok (.iadd, 1) := by decide +kernel
theorem dL_tick_239 : decode cL_tick 239 = .ok (.iastore, 1) := by decide +kernel
theorem dL_tick_240 : decode cL_tick 240 = .ok (.iconst 0, 1) := by decide +kernel
theorem dL_tick_241 : decode cL_tick 241 = .ok (.istore 9, 2) := by decide +kernel
theorem dL_tick_243 : decode cL_tick 243 = .ok (.iload 9, 2) := by decide +kernel
theorem dL_tick_245 : decode cL_tick 245 = .ok (.aload_n 0, 1) := by decide +kernel
theorem dL_tick_246 : decode cL_tick 246 = .ok (.bipush 21, 2) := by decide +kernel
theorem dL_tick_248 : decode cL_tick 248 = .ok (.iaload, 1) := by decide +kernel
theorem dL_tick_249 : decode cL_tick 249 = .ok (.if_icmp .ge 208, 3) := by decide +kernel
theorem dL_tick_252 : decode cL_tick 252 = .ok (.iload 7, 2) := by decide +kernel
theorem dL_tick_254 : decode cL_tick 254 = .ok (.aload_n 0, 1) := by decide +kernel
theorem dL_tick_255 : decode cL_tick 255 = .ok (.bipush 17, 2) := by decide +kernel
theorem dL_tick_257 : decode cL_tick 257 = .ok (.iaload, 1) := by decide +kernel
theorem dL_tick_258 : decode cL_tick 258 = .ok (.iadd, 1) := by decide +kernel
theorem dL_tick_259 : decode cL_tick 259 = .ok (.ifCond .ne 192, 3) := by decide +kernel
theorem dL_tick_262 : decode cL_tick 262 = .ok (.aload_n 1, 1) := by decide +kernel
theorem dL_tick_263 : decode cL_tick 263 = .ok (.iconst 5, 1) := by decide +kernel
theorem dL_tick_264 : decode cL_tick 264 = .ok (.iload 9, 2) := by decide +kernel
theorem dL_tick_266 : decode cL_tick 266 = .ok (.imul, 1) := by decide +kernel
theorem dL_tick_267 : decode cL_tick 267 = .ok (.iconst 1, 1) := by decide +kernel
theorem dL_tick_268 : decode cL_tick 268 = .ok (.iadd, 1) := by decide +kernel
theorem dL_tick_269 : decode cL_tick 269 = .ok (.iaload, 1) := by decide +kernel
theorem dL_tick_270 : decode cL_tick 270 = .ok (.aload_n 0, 1) := by decide +kernel
theorem dL_tick_271 : decode cL_tick 271 = .ok (.bipush 16, 2) := by decide +kernel
theorem dL_tick_273 : decode cL_tick 273 = .ok (.iaload, 1) := by decide +kernel
theorem dL_tick_274 : decode cL_tick 274 = .ok (.if_icmp .ne 177, 3) := by decide +kernel
theorem dL_tick_277 : decode cL_tick 277 = .ok (.aload_n 1, 1) := by decide +kernel
theorem dL_tick_278 : decode cL_tick 278 = .ok (.iconst 5, 1) := by decide +kernel
theorem dL_tick_279 : decode cL_tick 279 = .ok (.iload 9, 2) := by decide +kernel
theorem dL_tick_281 : decode cL_tick 281 = .ok (.imul, 1) := by decide +kernel
theorem dL_tick_282 : decode cL_tick 282 = .ok (.iconst 2, 1) := by decide +kernel
theorem dL_tick_283 : decode cL_tick 283 = .ok (.iadd, 1) := by decide +kernel
theorem dL_tick_284 : decode cL_tick 284 = .ok (.iaload, 1) := by decide +kernel
theorem dL_tick_285 : decode cL_tick 285 = .ok (.aload_n 0, 1) := by decide +kernel
theorem dL_tick_286 : decode cL_tick 286 = .ok (.bipush 6, 2) := by decide +kernel
theorem dL_tick_288 : decode cL_tick 288 = .ok (.iaload, 1) := by decide +kernel
theorem dL_tick_289 : decode cL_tick 289 = .ok (.aload_n 0, 1) := by decide +kernel
theorem dL_tick_290 : decode cL_tick 290 = .ok (.iconst 1, 1) := by decide +kernel
theorem dL_tick_291 : decode cL_tick 291 = .ok (.iaload, 1) := by decide +kernel
theorem dL_tick_292 : decode cL_tick 292 = .ok (.irem, 1) := by decide +kernel
theorem dL_tick_293 : decode cL_tick 293 = .ok (.if_icmp .ne 158, 3) := by decide +kernel
theorem dL_tick_296 : decode cL_tick 296 = .ok (.bipush 49, 2) := by decide +kernel
theorem dL_tick_298 : decode cL_tick 298 = .ok (.istore 10, 2) := by decide +kernel
theorem dL_tick_300 : decode cL_tick 300 = .ok (.iload 10, 2) := by decide +kernel
theorem dL_tick_302 : decode cL_tick 302 = .ok (.iconst 4, 1) := by decide +kernel
theorem dL_tick_303 : decode cL_tick 303 = .ok (.if_icmp .le 19, 3) := by decide +kernel
theorem dL_tick_306 : decode cL_tick 306 = .ok (.aload_n 2, 1) := by decide +kernel
theorem dL_tick_307 : decode cL_tick 307 = .ok (.iload 10, 2) := by decide +kernel
theorem dL_tick_309 : decode cL_tick 309 = .ok (.aload_n 2, 1) := by decide +kernel
theorem dL_tick_310 : decode cL_tick 310 = .ok (.iload 10, 2) := by decide +kernel
theorem dL_tick_312 : decode cL_tick 312 = .ok (.iconst 5, 1) := by decide +kernel
theorem dL_tick_313 : decode cL_tick 313 = .ok (.isub, 1) := by decide +kernel
theorem dL_tick_314 : decode cL_tick 314 = .ok (.iaload, 1) := by decide +kernel
theorem dL_tick_315 : decode cL_tick 315 = .ok (.iastore, 1) := by decide +kernel
theorem dL_tick_316 : decode cL_tick 316 = .ok (.iinc 10 (-1), 3) := by decide +kernel
theorem dL_tick_319 : decode cL_tick 319 = .ok (.goto (-19), 3) := by decide +kernel
theorem dL_tick_322 : decode cL_tick 322 = .ok (.aload_n 2, 1) := by decide +kernel
theorem dL_tick_323 : decode cL_tick 323 = .ok (.iconst 0, 1) := by decide +kernel
theorem dL_tick_324 : decode cL_tick 324 = .ok (.aload_n 1, 1) := by decide +kernel
theorem dL_tick_325 : decode cL_tick 325 = .ok (.iconst 5, 1) := by decide +kernel
theorem dL_tick_326 : decode cL_tick 326 = .ok (.iload 9, 2) := by decide +kernel
theorem dL_tick_328 : decode cL_tick 328 = .ok (.imul, 1) := by decide +kernel
theorem dL_tick_329 : decode cL_tick 329 = .ok (.iaload, 1) := by decide +kernel
theorem dL_tick_330 : decode cL_tick 330 = .ok (.iastore, 1) := by decide +kernel
theorem dL_tick_331 : decode cL_tick 331 = .ok (.aload_n 2, 1) := by decide +kernel
theorem dL_tick_332 : decode cL_tick 332 = .ok (.iconst 1, 1) := by decide +kernel
theorem dL_tick_333 : decode cL_tick 333 = .ok (.aload_n 1, 1) := by decide +kernel
theorem dL_tick_334 : decode cL_tick 334 = .ok (.iconst 5, 1) := by decide +kernel
theorem dL_tick_335 : decode cL_tick 335 = .ok (.iload 9, 2) := by decide +kernel
theorem dL_tick_337 : decode cL_tick 337 = .ok (.imul, 1) := by decide +kernel
theorem dL_tick_338 : decode cL_tick 338 = .ok (.iconst 1, 1) := by decide +kernel
theorem dL_tick_339 : decode cL_tick 339 = .ok (.iadd, 1) := by decide +kernel
theorem dL_tick_340 : decode cL_tick 340 = .ok (.iaload, 1) := by decide +kernel
theorem dL_tick_341 : decode cL_tick 341 = .ok (.iastore, 1) := by decide +kernel
theorem dL_tick_342 : decode cL_tick 342 = .ok (.aload_n 2, 1) := by decide +kernel
theorem dL_tick_343 : decode cL_tick 343 = .ok (.iconst 2, 1) := by decide +kernel
theorem dL_tick_344 : decode cL_tick 344 = .ok (.aload_n 1, 1) := by decide +kernel
theorem dL_tick_345 : decode cL_tick 345 = .ok (.iconst 5, 1) := by decide +kernel
theorem dL_tick_346 : decode cL_tick 346 = .ok (.iload 9, 2) := by decide +kernel
theorem dL_tick_348 : decode cL_tick 348 = .ok (.imul, 1) := by decide +kernel
theorem dL_tick_349 : decode cL_tick 349 = .ok (.iconst 2, 1) := by decide +kernel
theorem dL_tick_350 : decode cL_tick 350 = .ok (.iadd, 1) := by decide +kernel
theorem dL_tick_351 : decode cL_tick 351 = .ok (.iaload, 1) := by decide +kernel
theorem dL_tick_352 : decode cL_tick 352 = .ok (.iastore, 1) := by decide +kernel
theorem dL_tick_353 : decode cL_tick 353 = .ok (.aload_n 2, 1) := by decide +kernel
theorem dL_tick_354 : decode cL_tick 354 = .ok (.iconst 3, 1) := by decide +kernel
theorem dL_tick_355 : decode cL_tick 355 = .ok (.aload_n 0, 1) := by decide +kernel
theorem dL_tick_356 : decode cL_tick 356 = .ok (.bipush 6, 2) := by decide +kernel
theorem dL_tick_358 : decode cL_tick 358 = .ok (.iaload, 1) := by decide +kernel
theorem dL_tick_359 : decode cL_tick 359 = .ok (.iastore, 1) := by decide +kernel
theorem dL_tick_360 : decode cL_tick 360 = .ok (.aload_n 2, 1) := by decide +kernel
theorem dL_tick_361 : decode cL_tick 361 = .ok (.iconst 4, 1) := by decide +kernel
theorem dL_tick_362 : decode cL_tick 362 = .ok (.aload_n 1, 1) := by decide +kernel
theorem dL_tick_363 : decode cL_tick 363 = .ok (.iconst 5, 1) := by decide +kernel
theorem dL_tick_364 : decode cL_tick 364 = .ok (.iload 9, 2) := by decide +kernel
theorem dL_tick_366 : decode cL_tick 366 = .ok (.imul, 1) := by decide +kernel
theorem dL_tick_367 : decode cL_tick 367 = .ok (.iconst 3, 1) := by decide +kernel
theorem dL_tick_368 : decode cL_tick 368 = .ok (.iadd, 1) := by decide +kernel
theorem dL_tick_369 : decode cL_tick 369 = .ok (.iaload, 1) := by decide +kernel
theorem dL_tick_370 : decode cL_tick 370 = .ok (.aload_n 0, 1) := by decide +kernel
theorem dL_tick_371 : decode cL_tick 371 = .ok (.bipush 6, 2) := by decide +kernel
theorem dL_tick_373 : decode cL_tick 373 = .ok (.iaload, 1) := by decide +kernel
theorem dL_tick_374 : decode cL_tick 374 = .ok (.if_icmp .ge 7, 3) := by decide +kernel
theorem dL_tick_377 : decode cL_tick 377 = .ok (.iconst 1, 1) := by decide +kernel
theorem dL_tick_378 : decode cL_tick 378 = .ok (.goto 4, 3) := by decide +kernel
theorem dL_tick_381 : decode cL_tick 381 = .ok (.iconst 0, 1) := by decide +kernel
theorem dL_tick_382 : decode cL_tick 382 = .ok (.iastore, 1) := by decide +kernel
theorem dL_tick_383 : decode cL_tick 383 = .ok (.iload 5, 2) := by decide +kernel
theorem dL_tick_385 : decode cL_tick 385 = .ok (.ifCond .ne 10, 3) := by decide +kernel
theorem dL_tick_388 : decode cL_tick 388 = .ok (.aload_n 2, 1) := by decide +kernel
theorem dL_tick_389 : decode cL_tick 389 = .ok (.iconst 0, 1) := by decide +kernel
theorem dL_tick_390 : decode cL_tick 390 = .ok (.iaload, 1) := by decide +kernel
theorem dL_tick_391 : decode cL_tick 391 = .ok (.iload_n 3, 1) := by decide +kernel
theorem dL_tick_392 : decode cL_tick 392 = .ok (.if_icmp .ne 7, 3) := by decide +kernel
theorem dL_tick_395 : decode cL_tick 395 = .ok (.iconst 1, 1) := by decide +kernel
theorem dL_tick_396 : decode cL_tick 396 = .ok (.goto 4, 3) := by decide +kernel
theorem dL_tick_399 : decode cL_tick 399 = .ok (.iconst 0, 1) := by decide +kernel
theorem dL_tick_400 : decode cL_tick 400 = .ok (.istore 5, 2) := by decide +kernel
theorem dL_tick_402 : decode cL_tick 402 = .ok (.aload_n 0, 1) := by decide +kernel
theorem dL_tick_403 : decode cL_tick 403 = .ok (.bipush 9, 2) := by decide +kernel
theorem dL_tick_405 : decode cL_tick 405 = .ok (.dup2, 1) := by decide +kernel
theorem dL_tick_406 : decode cL_tick 406 = .ok (.iaload, 1) := by decide +kernel
theorem dL_tick_407 : decode cL_tick 407 = .ok (.aload_n 2, 1) := by decide +kernel
theorem dL_tick_408 : decode cL_tick 408 = .ok (.iconst 4, 1) := by decide +kernel
theorem dL_tick_409 : decode cL_tick 409 = .ok (.iaload, 1) := by decide +kernel
theorem dL_tick_410 : decode cL_tick 410 = .ok (.iadd, 1) := by decide +kernel
theorem dL_tick_411 : decode cL_tick 411 = .ok (.iastore, 1) := by decide +kernel
theorem dL_tick_412 : decode cL_tick 412 = .ok (.aload_n 0, 1) := by decide +kernel
theorem dL_tick_413 : decode cL_tick 413 = .ok (.bipush 8, 2) := by decide +kernel
theorem dL_tick_415 : decode cL_tick 415 = .ok (.dup2, 1) := by decide +kernel
theorem dL_tick_416 : decode cL_tick 416 = .ok (.iaload, 1) := by decide +kernel
theorem dL_tick_417 : decode cL_tick 417 = .ok (.iconst 1, 1) := by decide +kernel
theorem dL_tick_418 : decode cL_tick 418 = .ok (.iadd, 1) := by decide +kernel
theorem dL_tick_419 : decode cL_tick 419 = .ok (.iastore, 1) := by decide +kernel
theorem dL_tick_420 : decode cL_tick 420 = .ok (.aload_n 0, 1) := by decide +kernel
theorem dL_tick_421 : decode cL_tick 421 = .ok (.bipush 22, 2) := by decide +kernel
theorem dL_tick_423 : decode cL_tick 423 = .ok (.dup2, 1) := by decide +kernel
theorem dL_tick_424 : decode cL_tick 424 = .ok (.iaload, 1) := by decide +kernel
theorem dL_tick_425 : decode cL_tick 425 = .ok (.aload_n 0, 1) := by decide +kernel
theorem dL_tick_426 : decode cL_tick 426 = .ok (.bipush 22, 2) := by decide +kernel
theorem dL_tick_428 : decode cL_tick 428 = .ok (.iaload, 1) := by decide +kernel
theorem dL_tick_429 : decode cL_tick 429 = .ok (.bipush 10, 2) := by decide +kernel
theorem dL_tick_431 : decode cL_tick 431 = .ok (.if_icmp .ge 7, 3) := by decide +kernel
theorem dL_tick_434 : decode cL_tick 434 = .ok (.iconst 1, 1) := by decide +kernel
theorem dL_tick_435 : decode cL_tick 435 = .ok (.goto 4, 3) := by decide +kernel
theorem dL_tick_438 : decode cL_tick 438 = .ok (.iconst 0, 1) := by decide +kernel
theorem dL_tick_439 : decode cL_tick 439 = .ok (.iadd, 1) := by decide +kernel
theorem dL_tick_440 : decode cL_tick 440 = .ok (.iastore, 1) := by decide +kernel
theorem dL_tick_441 : decode cL_tick 441 = .ok (.aload_n 0, 1) := by decide +kernel
theorem dL_tick_442 : decode cL_tick 442 = .ok (.aload_n 1, 1) := by decide +kernel
theorem dL_tick_443 : decode cL_tick 443 = .ok (.iload 9, 2) := by decide +kernel
theorem dL_tick_445 : decode cL_tick 445 = .ok (.invokestatic 52, 3) := by decide +kernel
theorem dL_tick_448 : decode cL_tick 448 = .ok (.iinc 9 (-1), 3) := by decide +kernel
theorem dL_tick_451 : decode cL_tick 451 = .ok (.iinc 9 1, 3) := by decide +kernel
theorem dL_tick_454 : decode cL_tick 454 = .ok (.goto (-211), 3) := by decide +kernel
theorem dL_tick_457 : decode cL_tick 457 = .ok (.iconst 0, 1) := by decide +kernel
theorem dL_tick_458 : decode cL_tick 458 = .ok (.istore 9, 2) := by decide +kernel
theorem dL_tick_460 : decode cL_tick 460 = .ok (.iload 9, 2) := by decide +kernel
theorem dL_tick_462 : decode cL_tick 462 = .ok (.aload_n 0, 1) := by decide +kernel
theorem dL_tick_463 : decode cL_tick 463 = .ok (.bipush 21, 2) := by decide +kernel
theorem dL_tick_465 : decode cL_tick 465 = .ok (.iaload, 1) := by decide +kernel
theorem dL_tick_466 : decode cL_tick 466 = .ok (.if_icmp .ge 52, 3) := by decide +kernel
theorem dL_tick_469 : decode cL_tick 469 = .ok (.aload_n 0, 1) := by decide +kernel
theorem dL_tick_470 : decode cL_tick 470 = .ok (.iconst 5, 1) := by decide +kernel
theorem dL_tick_471 : decode cL_tick 471 = .ok (.iaload, 1) := by decide +kernel
theorem dL_tick_472 : decode cL_tick 472 = .ok (.ifCond .le 40, 3) := by decide +kernel
theorem dL_tick_475 : decode cL_tick 475 = .ok (.aload_n 1, 1) := by decide +kernel
theorem dL_tick_476 : decode cL_tick 476 = .ok (.iconst 5, 1) := by decide +kernel
theorem dL_tick_477 : decode cL_tick 477 = .ok (.iload 9, 2) := by decide +kernel
theorem dL_tick_479 : decode cL_tick 479 = .ok (.imul, 1) := by decide +kernel
theorem dL_tick_480 : decode cL_tick 480 = .ok (.iconst 3, 1) := by decide +kernel
theorem dL_tick_481 : decode cL_tick 481 = .ok (.iadd, 1) := by decide +kernel
theorem dL_tick_482 : decode cL_tick 482 = .ok (.iaload, 1) := by decide +kernel
theorem dL_tick_483 : decode cL_tick 483 = .ok (.aload_n 0, 1) := by decide +kernel
theorem dL_tick_484 : decode cL_tick 484 = .ok (.bipush 6, 2) := by decide +kernel
theorem dL_tick_486 : decode cL_tick 486 = .ok (.iaload, 1) := by decide +kernel
theorem dL_tick_487 : decode cL_tick 487 = .ok (.aload_n 0, 1) := by decide +kernel
theorem dL_tick_488 : decode cL_tick 488 = .ok (.iconst 5, 1) := by decide +kernel
theorem dL_tick_489 : decode cL_tick 489 = .ok (.iaload, 1) := by decide +kernel
theorem dL_tick_490 : decode cL_tick 490 = .ok (.isub, 1) := by decide +kernel
theorem dL_tick_491 : decode cL_tick 491 = .ok (.if_icmp .ge 21, 3) := by decide +kernel
theorem dL_tick_494 : decode cL_tick 494 = .ok (.aload_n 0, 1) := by decide +kernel
theorem dL_tick_495 : decode cL_tick 495 = .ok (.aload_n 1, 1) := by decide +kernel
theorem dL_tick_496 : decode cL_tick 496 = .ok (.iload 9, 2) := by decide +kernel
theorem dL_tick_498 : decode cL_tick 498 = .ok (.invokestatic 52, 3) := by decide +kernel
theorem dL_tick_501 : decode cL_tick 501 = .ok (.aload_n 0, 1) := by decide +kernel
theorem dL_tick_502 : decode cL_tick 502 = .ok (.bipush 10, 2) := by decide +kernel
theorem dL_tick_504 : decode cL_tick 504 = .ok (.dup2, 1) := by decide +kernel
theorem dL_tick_505 : decode cL_tick 505 = .ok (.iaload, 1) := by decide +kernel
theorem dL_tick_506 : decode cL_tick 506 = .ok (.iconst 1, 1) := by decide +kernel
theorem dL_tick_507 : decode cL_tick 507 = .ok (.iadd, 1) := by decide +kernel
theorem dL_tick_508 : decode cL_tick 508 = .ok (.iastore, 1) := by decide +kernel
theorem dL_tick_509 : decode cL_tick 509 = .ok (.iinc 9 (-1), 3) := by decide +kernel
theorem dL_tick_512 : decode cL_tick 512 = .ok (.iinc 9 1, 3) := by decide +kernel
theorem dL_tick_515 : decode cL_tick 515 = .ok (.goto (-55), 3) := by decide +kernel
theorem dL_tick_518 : decode cL_tick 518 = .ok (.aload_n 0, 1) := by decide +kernel
theorem dL_tick_519 : decode cL_tick 519 = .ok (.bipush 18, 2) := by decide +kernel
theorem dL_tick_521 : decode cL_tick 521 = .ok (.aload_n 0, 1) := by decide +kernel
theorem dL_tick_522 : decode cL_tick 522 = .ok (.bipush 18, 2) := by decide +kernel
theorem dL_tick_524 : decode cL_tick 524 = .ok (.iaload, 1) := by decide +kernel
theorem dL_tick_525 : decode cL_tick 525 = .ok (.ifCond .le 12, 3) := by decide +kernel
theorem dL_tick_528 : decode cL_tick 528 = .ok (.aload_n 0, 1) := by decide +kernel
theorem dL_tick_529 : decode cL_tick 529 = .ok (.bipush 18, 2) := by decide +kernel
theorem dL_tick_531 : decode cL_tick 531 = .ok (.iaload, 1) := by decide +kernel
theorem dL_tick_532 : decode cL_tick 532 = .ok (.iconst 1, 1) := by decide +kernel
theorem dL_tick_533 : decode cL_tick 533 = .ok (.isub, 1) := by decide +kernel
theorem dL_tick_534 : decode cL_tick 534 = .ok (.goto 4, 3) := by decide +kernel
theorem dL_tick_537 : decode cL_tick 537 = .ok (.iconst 0, 1) := by decide +kernel
theorem dL_tick_538 : decode cL_tick 538 = .ok (.iastore, 1) := by decide +kernel
theorem dL_tick_539 : decode cL_tick 539 = .ok (.aload_n 0, 1) := by decide +kernel
theorem dL_tick_540 : decode cL_tick 540 = .ok (.bipush 19, 2) := by decide +kernel
theorem dL_tick_542 : decode cL_tick 542 = .ok (.aload_n 0, 1) := by decide +kernel
theorem dL_tick_543 : decode cL_tick 543 = .ok (.bipush 18, 2) := by decide +kernel
theorem dL_tick_545 : decode cL_tick 545 = .ok (.iaload, 1) := by decide +kernel
theorem dL_tick_546 : decode cL_tick 546 = .ok (.aload_n 0, 1) := by decide +kernel
theorem dL_tick_547 : decode cL_tick 547 = .ok (.iconst 4, 1) := by decide +kernel
theorem dL_tick_548 : decode cL_tick 548 = .ok (.iaload, 1) := by decide +kernel
theorem dL_tick_549 : decode cL_tick 549 = .ok (.if_icmp .lt 7, 3) := by decide +kernel
theorem dL_tick_552 : decode cL_tick 552 = .ok (.iconst 1, 1) := by decide +kernel
theorem dL_tick_553 : decode cL_tick 553 = .ok (.goto 29, 3) := by decide +kernel
theorem dL_tick_556 : decode cL_tick 556 = .ok (.iconst 2, 1) := by decide +kernel
theorem dL_tick_557 : decode cL_tick 557 = .ok (.aload_n 0, 1) := by decide +kernel
theorem dL_tick_558 : decode cL_tick 558 = .ok (.bipush 18, 2) := by decide +kernel
theorem dL_tick_560 : decode cL_tick 560 = .ok (.iaload, 1) := by decide +kernel
theorem dL_tick_561 : decode cL_tick 561 = .ok (.imul, 1) := by decide +kernel
theorem dL_tick_562 : decode cL_tick 562 = .ok (.aload_n 0, 1) := by decide +kernel
theorem dL_tick_563 : decode cL_tick 563 = .ok (.iconst 4, 1) := by decide +kernel
theorem dL_tick_564 : decode cL_tick 564 = .ok (.iaload, 1) := by decide +kernel
theorem dL_tick_565 : decode cL_tick 565 = .ok (.aload_n 0, 1) := by decide +kernel
theorem dL_tick_566 : decode cL_tick 566 = .ok (.iconst 4, 1) := by decide +kernel
theorem dL_tick_567 : decode cL_tick 567 = .ok (.iaload, 1) := by decide +kernel
theorem dL_tick_568 : decode cL_tick 568 = .ok (.iconst 2, 1) := by decide +kernel
theorem dL_tick_569 : decode cL_tick 569 = .ok (.irem, 1) := by decide +kernel
theorem dL_tick_570 : decode cL_tick 570 = .ok (.isub, 1) := by decide +kernel
theorem dL_tick_571 : decode cL_tick 571 = .ok (.if_icmp .gt 7, 3) := by decide +kernel
theorem dL_tick_574 : decode cL_tick 574 = .ok (.iconst 0, 1) := by decide +kernel
theorem dL_tick_575 : decode cL_tick 575 = .ok (.goto 7, 3) := by decide +kernel
theorem dL_tick_578 : decode cL_tick 578 = .ok (.aload_n 0, 1) := by decide +kernel
theorem dL_tick_579 : decode cL_tick 579 = .ok (.bipush 19, 2) := by decide +kernel
theorem dL_tick_581 : decode cL_tick 581 = .ok (.iaload, 1) := by decide +kernel
theorem dL_tick_582 : decode cL_tick 582 = .ok (.iastore, 1) := by decide +kernel
theorem dL_tick_583 : decode cL_tick 583 = .ok (.aload_n 0, 1) := by decide +kernel
theorem dL_tick_584 : decode cL_tick 584 = .ok (.bipush 15, 2) := by decide +kernel
theorem dL_tick_586 : decode cL_tick 586 = .ok (.aload_n 0, 1) := by decide +kernel
theorem dL_tick_587 : decode cL_tick 587 = .ok (.bipush 18, 2) := by decide +kernel
theorem dL_tick_589 : decode cL_tick 589 = .ok (.iaload, 1) := by decide +kernel
theorem dL_tick_590 : decode cL_tick 590 = .ok (.aload_n 0, 1) := by decide +kernel
theorem dL_tick_591 : decode cL_tick 591 = .ok (.bipush 15, 2) := by decide +kernel
theorem dL_tick_593 : decode cL_tick 593 = .ok (.iaload, 1) := by decide +kernel
theorem dL_tick_594 : decode cL_tick 594 = .ok (.if_icmp .le 10, 3) := by decide +kernel
theorem dL_tick_597 : decode cL_tick 597 = .ok (.aload_n 0, 1) := by decide +kernel
theorem dL_tick_598 : decode cL_tick 598 = .ok (.bipush 18, 2) := by decide +kernel
theorem dL_tick_600 : decode cL_tick 600 = .ok (.iaload, 1) := by decide +kernel
theorem dL_tick_601 : decode cL_tick 601 = .ok (.goto 7, 3) := by decide +kernel
theorem dL_tick_604 : decode cL_tick 604 = .ok (.aload_n 0, 1) := by decide +kernel
theorem dL_tick_605 : decode cL_tick 605 = .ok (.bipush 15, 2) := by decide +kernel
theorem dL_tick_607 : decode cL_tick 607 = .ok (.iaload, 1) := by decide +kernel
theorem dL_tick_608 : decode cL_tick 608 = .ok (.iastore, 1) := by decide +kernel
theorem dL_tick_609 : decode cL_tick 609 = .ok (.aload_n 0, 1) := by decide +kernel
theorem dL_tick_610 : decode cL_tick 610 = .ok (.bipush 6, 2) := by decide +kernel
theorem dL_tick_612 : decode cL_tick 612 = .ok (.dup2, 1) := by decide +kernel
theorem dL_tick_613 : decode cL_tick 613 = .ok (.iaload, 1) := by decide +kernel
theorem dL_tick_614 : decode cL_tick 614 = .ok (.iconst 1, 1) := by decide +kernel
theorem dL_tick_615 : decode cL_tick 615 = .ok (.iadd, 1) := by decide +kernel
theorem dL_tick_616 : decode cL_tick 616 = .ok (.iastore, 1) := by decide +kernel
theorem dL_tick_617 : decode cL_tick 617 = .ok (.iload 5, 2) := by decide +kernel
theorem dL_tick_619 : decode cL_tick 619 = .ok (.ireturn, 1) := by decide +kernel
theorem cc_L_tick_L_target : CallC tL_tick tL_target 3 := ⟨by decide +kernel, by decide +kernel, by decide +kernel, by decide, by decide, qw_14, qw_590⟩
theorem cc_L_tick_L_gone : CallC tL_tick tL_gone 3 := ⟨by decide +kernel, by decide +kernel, by decide +kernel, by decide, by decide, qw_14, qw_490⟩
def kL_tick : Nat → WOp := cN 324 (cN 171 (cN 76 (cN 42 (cN 20 (cN 5 (cN 2 (cN 0 (cL 0 (o_aload 1 0)) (cN 1 (cL 1 (o_aload 2 1)) (cL 2 (o_aload 3 0)))) (cN 3 (cL 3 (o_push 4 2)) (cN 4 (cL 4 (o_iald 5)) (cL 5 (o_callS 8 3 tL_target 0 0))))) (cN 11 (cN 8 (cL 8 (o_istore 10 4)) (cN 10 (cL 10 (o_push 11 0)) (cL 11 (o_istore 13 5)))) (cN 15 (cN 13 (cL 13 (o_iload 15 4)) (cL 15 (o_push 17 99))) (cN 17 (cL 17 (o_icmp_le 33 20)) (cL 20 (o_iinc 23 4 (-100))))))) (cN 30 (cN 26 (cN 23 (cL 23 (o_aload 24 0)) (cN 24 (cL 24 (o_push 26 20)) (cL 26 (o_push 27 3)))) (cN 27 (cL 27 (o_aload 28 0)) (cN 28 (cL 28 (o_push 30 20)) (cL 30 (o_iald 31))))) (cN 33 (cN 31 (cL 31 (o_isub 32)) (cN 32 (cL 32 (o_iast 33)) (cL 33 (o_iload 35 4)))) (cN 38 (cN 35 (cL 35 (o_if_ge 42 38)) (cL 38 (o_push 39 0))) (cN 39 (cL 39 (o_goto 55)) (cL 42 (o_aload 43 1))))))) (cN 58 (cN 49 (cN 46 (cN 43 (cL 43 (o_push 44 5)) (cN 44 (cL 44 (o_iload 46 4)) (cL 46 (o_imul 47)))) (cN 47 (cL 47 (o_push 48 1)) (cN 48 (cL 48 (o_iadd 49)) (cL 49 (o_iald 50))))) (cN 53 (cN 50 (cL 50 (o_aload 51 0)) (cN 51 (cL 51 (o_push 53 16)) (cL 53 (o_iald 54)))) (cN 55 (cN 54 (cL 54 (o_isub 55)) (cL 55 (o_istore 57 6))) (cN 57 (cL 57 (o_aload 58 0)) (cL 58 (o_push 60 17)))))) (cN 67 (cN 63 (cN 60 (cL 60 (o_iald 61)) (cN 61 (cL 61 (o_istore 63 7)) (cL 63 (o_aload 64 0)))) (cN 64 (cL 64 (o_push 66 14)) (cN 66 (cL 66 (o_dup2 67)) (cL 67 (o_iald 68))))) (cN 71 (cN 68 (cL 68 (o_aload 69 0)) (cN 69 (cL 69 (o_push 71 19)) (cL 71 (o_iald 72)))) (cN 73 (cN 72 (cL 72 (o_iadd 73)) (cL 73 (o_iast 74))) (cN 74 (cL 74 (o_iload 76 7)) (cL 76 (o_push 77 1)))))))) (cN 129 (cN 104 (cN 89 (cN 82 (cN 77 (cL 77 (o_icmp_ne 93 80)) (cN 80 (cL 80 (o_iload 82 6)) (cL 82 (o_if_le 89 85)))) (cN 85 (cL 85 (o_push 86 1)) (cN 86 (cL 86 (o_goto 129)) (cL 89 (o_push 90 0))))) (cN 95 (cN 90 (cL 90 (o_goto 129)) (cN 93 (cL 93 (o_iload 95 7)) (cL 95 (o_push 96 2)))) (cN 99 (cN 96 (cL 96 (o_icmp_ne 112 99)) (cL 99 (o_iload 101 6))) (cN 101 (cL 101 (o_if_ge 108 104)) (cL 104 (o_push 105 1)))))) (cN 117 (cN 109 (cN 105 (cL 105 (o_goto 129)) (cN 108 (cL 108 (o_push 109 0)) (cL 109 (o_goto 129)))) (cN 112 (cL 112 (o_iload 114 6)) (cN 114 (cL 114 (o_if_eq 128 117)) (cL 117 (o_aload 118 0))))) (cN 121 (cN 118 (cL 118 (o_push 120 19)) (cN 120 (cL 120 (o_iald 121)) (cL 121 (o_if_ne 128 124)))) (cN 125 (cN 124 (cL 124 (o_push 125 1)) (cL 125 (o_goto 129))) (cN 128 (cL 128 (o_push 129 0)) (cL 129 (o_istore 131 8))))))) (cN 152 (cN 140 (cN 136 (cN 131 (cL 131 (o_iload 133 8)) (cN 133 (cL 133 (o_if_eq 212 136)) (cL 136 (o_aload 137 0)))) (cN 137 (cL 137 (o_push 139 12)) (cN 139 (cL 139 (o_dup2 140)) (cL 140 (o_iald 141))))) (cN 146 (cN 141 (cL 141 (o_iload 143 7)) (cN 143 (cL 143 (o_if_ne 150 146)) (cL 146 (o_push 147 1)))) (cN 150 (cN 147 (cL 147 (o_goto 151)) (cL 150 (o_push 151 0))) (cN 151 (cL 151 (o_iadd 152)) (cL 152 (o_iast 153)))))) (cN 160 (cN 156 (cN 153 (cL 153 (o_aload 154 0)) (cN 154 (cL 154 (o_push 156 18)) (cL 156 (o_dup2 157)))) (cN 157 (cL 157 (o_iald 158)) (cN 158 (cL 158 (o_iload 160 7)) (cL 160 (o_if_ne 167 163))))) (cN 167 (cN 163 (cL 163 (o_push 164 2)) (cN 164 (cL 164 (o_goto 168)) (cL 167 (o_push 168 1)))) (cN 169 (cN 168 (cL 168 (o_iadd 169)) (cL 169 (o_iast 170))) (cN 170 (cL 170 (o_aload 171 0)) (cL 171 (o_push 173 17))))))))) (cN 246 (cN 212 (cN 194 (cN 183 (cN 178 (cN 173 (cL 173 (o_iload 175 6)) (cN 175 (cL 175 (o_if_le 182 178)) (cL 178 (o_push 179 1)))) (cN 179 (cL 179 (o_goto 183)) (cN 182 (cL 182 (o_push 183 2)) (cL 183 (o_iast 184))))) (cN 187 (cN 184 (cL 184 (o_aload 185 0)) (cN 185 (cL 185 (o_push 187 16)) (cL 187 (o_dup2 188)))) (cN 189 (cN 188 (cL 188 (o_iald 189)) (cL 189 (o_iload 191 6))) (cN 191 (cL 191 (o_if_le 198 194)) (cL 194 (o_push 195 1)))))) (cN 202 (cN 199 (cN 195 (cL 195 (o_goto 199)) (cN 198 (cL 198 (o_push 199 (-1))) (cL 199 (o_iadd 200)))) (cN 200 (cL 200 (o_iast 201)) (cN 201 (cL 201 (o_aload 202 0)) (cL 202 (o_push 204 11))))) (cN 206 (cN 204 (cL 204 (o_dup2 205)) (cN 205 (cL 205 (o_iald 206)) (cL 206 (o_push 207 1)))) (cN 208 (cN 207 (cL 207 (o_iadd 208)) (cL 208 (o_iast 209))) (cN 209 (cL 209 (o_goto 240)) (cL 212 (o_iload 214 7))))))) (cN 230 (cN 222 (cN 218 (cN 214 (cL 214 (o_if_le 240 217)) (cN 217 (cL 217 (o_aload 218 0)) (cL 218 (o_push 220 17)))) (cN 220 (cL 220 (o_push 221 0)) (cN 221 (cL 221 (o_iast 222)) (cL 222 (o_aload 223 0))))) (cN 226 (cN 223 (cL 223 (o_push 225 18)) (cN 225 (cL 225 (o_dup2 226)) (cL 226 (o_iald 227)))) (cN 228 (cN 227 (cL 227 (o_aload 228 0)) (cL 228 (o_push 229 3))) (cN 229 (cL 229 (o_iald 230)) (cL 230 (o_iadd 231)))))) (cN 237 (cN 233 (cN 231 (cL 231 (o_iast 232)) (cN 232 (cL 232 (o_aload 233 0)) (cL 233 (o_push 235 13)))) (cN 235 (cL 235 (o_dup2 236)) (cN 236 (cL 236 (o_iald 237)) (cL 237 (o_push 238 1))))) (cN 240 (cN 238 (cL 238 (o_iadd 239)) (cN 239 (cL 239 (o_iast 240)) (cL 240 (o_push 241 0)))) (cN 243 (cN 241 (cL 241 (o_istore 243 9)) (cL 243 (o_iload 245 9))) (cN 245 (cL 245 (o_aload 246 0)) (cL 246 (o_push 248 21)))))))) (cN 284 (cN 267 (cN 257 (cN 252 (cN 248 (cL 248 (o_iald 249)) (cN 249 (cL 249 (o_icmp_ge 457 252)) (cL 252 (o_iload 254 7)))) (cN 254 (cL 254 (o_aload 255 0)) (cN 255 (cL 255 (o_push 257 17)) (cL 257 (o_iald 258))))) (cN 262 (cN 258 (cL 258 (o_iadd 259)) (cN 259 (cL 259 (o_if_ne 451 262)) (cL 262 (o_aload 263 1)))) (cN 264 (cN 263 (cL 263 (o_push 264 5)) (cL 264 (o_iload 266 9))) (cN 266 (cL 266 (o_imul 267)) (cL 267 (o_push 268 1)))))) (cN 274 (cN 270 (cN 268 (cL 268 (o_iadd 269)) (cN 269 (cL 269 (o_iald 270)) (cL 270 (o_aload 271 0)))) (cN 271 (cL 271 (o_push 273 16)) (cN 273 (cL 273 (o_iald 274)) (cL 274 (o_icmp_ne 451 277))))) (cN 279 (cN 277 (cL 277 (o_aload 278 1)) (cN 278 (cL 278 (o_push 279 5)) (cL 279 (o_iload 281 9)))) (cN 282 (cN 281 (cL 281 (o_imul 282)) (cL 282 (o_push 283 2))) (cN 283 (cL 283 (o_iadd 284)) (cL 284 (o_iald 285))))))) (cN 303 (cN 291 (cN 288 (cN 285 (cL 285 (o_aload 286 0)) (cN 286 (cL 286 (o_push 288 6)) (cL 288 (o_iald 289)))) (cN 289 (cL 289 (o_aload 290 0)) (cN 290 (cL 290 (o_push 291 1)) (cL 291 (o_iald 292))))) (cN 296 (cN 292 (cL 292 (o_irem 293)) (cN 293 (cL 293 (o_icmp_ne 451 296)) (cL 296 (o_push 298 49)))) (cN 300 (cN 298 (cL 298 (o_istore 300 10)) (cL 300 (o_iload 302 10))) (cN 302 (cL 302 (o_push 303 4)) (cL 303 (o_icmp_le 322 306)))))) (cN 313 (cN 309 (cN 306 (cL 306 (o_aload 307 2)) (cN 307 (cL 307 (o_iload 309 10)) (cL 309 (o_aload 310 2)))) (cN 310 (cL 310 (o_iload 312 10)) (cN 312 (cL 312 (o_push 313 5)) (cL 313 (o_isub 314))))) (cN 316 (cN 314 (cL 314 (o_iald 315)) (cN 315 (cL 315 (o_iast 316)) (cL 316 (o_iinc 319 10 (-1))))) (cN 322 (cN 319 (cL 319 (o_goto 300)) (cL 322 (o_aload 323 2))) (cN 323 (cL 323 (o_push 324 0)) (cL 324 (o_aload 325 1)))))))))) (cN 469 (cN 389 (cN 353 (cN 339 (cN 331 (cN 328 (cN 325 (cL 325 (o_push 326 5)) (cN 326 (cL 326 (o_iload 328 9)) (cL 328 (o_imul 329)))) (cN 329 (cL 329 (o_iald 330)) (cN 330 (cL 330 (o_iast 331)) (cL 331 (o_aload 332 2))))) (cN 334 (cN 332 (cL 332 (o_push 333 1)) (cN 333 (cL 333 (o_aload 334 1)) (cL 334 (o_push 335 5)))) (cN 337 (cN 335 (cL 335 (o_iload 337 9)) (cL 337 (o_imul 338))) (cN 338 (cL 338 (o_push 339 1)) (cL 339 (o_iadd 340)))))) (cN 345 (cN 342 (cN 340 (cL 340 (o_iald 341)) (cN 341 (cL 341 (o_iast 342)) (cL 342 (o_aload 343 2)))) (cN 343 (cL 343 (o_push 344 2)) (cN 344 (cL 344 (o_aload 345 1)) (cL 345 (o_push 346 5))))) (cN 349 (cN 346 (cL 346 (o_iload 348 9)) (cN 348 (cL 348 (o_imul 349)) (cL 349 (o_push 350 2)))) (cN 351 (cN 350 (cL 350 (o_iadd 351)) (cL 351 (o_iald 352))) (cN 352 (cL 352 (o_iast 353)) (cL 353 (o_aload 354 2))))))) (cN 368 (cN 360 (cN 356 (cN 354 (cL 354 (o_push 355 3)) (cN 355 (cL 355 (o_aload 356 0)) (cL 356 (o_push 358 6)))) (cN 358 (cL 358 (o_iald 359)) (cN 359 (cL 359 (o_iast 360)) (cL 360 (o_aload 361 2))))) (cN 363 (cN 361 (cL 361 (o_push 362 4)) (cN 362 (cL 362 (o_aload 363 1)) (cL 363 (o_push 364 5)))) (cN 366 (cN 364 (cL 364 (o_iload 366 9)) (cL 366 (o_imul 367))) (cN 367 (cL 367 (o_push 368 3)) (cL 368 (o_iadd 369)))))) (cN 377 (cN 371 (cN 369 (cL 369 (o_iald 370)) (cN 370 (cL 370 (o_aload 371 0)) (cL 371 (o_push 373 6)))) (cN 373 (cL 373 (o_iald 374)) (cN 374 (cL 374 (o_icmp_ge 381 377)) (cL 377 (o_push 378 1))))) (cN 382 (cN 378 (cL 378 (o_goto 382)) (cN 381 (cL 381 (o_push 382 0)) (cL 382 (o_iast 383)))) (cN 385 (cN 383 (cL 383 (o_iload 385 5)) (cL 385 (o_if_ne 395 388))) (cN 388 (cL 388 (o_aload 389 2)) (cL 389 (o_push 390 0)))))))) (cN 423 (cN 408 (cN 399 (cN 392 (cN 390 (cL 390 (o_iald 391)) (cN 391 (cL 391 (o_iload 392 3)) (cL 392 (o_icmp_ne 399 395)))) (cN 395 (cL 395 (o_push 396 1)) (cN 396 (cL 396 (o_goto 400)) (cL 399 (o_push 400 0))))) (cN 403 (cN 400 (cL 400 (o_istore 402 5)) (cN 402 (cL 402 (o_aload 403 0)) (cL 403 (o_push 405 9)))) (cN 406 (cN 405 (cL 405 (o_dup2 406)) (cL 406 (o_iald 407))) (cN 407 (cL 407 (o_aload 408 2)) (cL 408 (o_push 409 4)))))) (cN 415 (cN 411 (cN 409 (cL 409 (o_iald 410)) (cN 410 (cL 410 (o_iadd 411)) (cL 411 (o_iast 412)))) (cN 412 (cL 412 (o_aload 413 0)) (cN 413 (cL 413 (o_push 415 8)) (cL 415 (o_dup2 416))))) (cN 418 (cN 416 (cL 416 (o_iald 417)) (cN 417 (cL 417 (o_push 418 1)) (cL 418 (o_iadd 419)))) (cN 420 (cN 419 (cL 419 (o_iast 420)) (cL 420 (o_aload 421 0))) (cN 421 (cL 421 (o_push 423 22)) (cL 423 (o_dup2 424))))))) (cN 442 (cN 431 (cN 426 (cN 424 (cL 424 (o_iald 425)) (cN 425 (cL 425 (o_aload 426 0)) (cL 426 (o_push 428 22)))) (cN 428 (cL 428 (o_iald 429)) (cN 429 (cL 429 (o_push 431 10)) (cL 431 (o_icmp_ge 438 434))))) (cN 438 (cN 434 (cL 434 (o_push 435 1)) (cN 435 (cL 435 (o_goto 439)) (cL 438 (o_push 439 0)))) (cN 440 (cN 439 (cL 439 (o_iadd 440)) (cL 440 (o_iast 441))) (cN 441 (cL 441 (o_aload 442 0)) (cL 442 (o_aload 443 1)))))) (cN 457 (cN 448 (cN 443 (cL 443 (o_iload 445 9)) (cN 445 (cL 445 (o_callS 448 3 tL_gone 0 0)) (cL 448 (o_iinc 451 9 (-1))))) (cN 451 (cL 451 (o_iinc 454 9 1)) (cN 454 (cL 454 (o_goto 243)) (cL 457 (o_push 458 0))))) (cN 462 (cN 458 (cL 458 (o_istore 460 9)) (cN 460 (cL 460 (o_iload 462 9)) (cL 462 (o_aload 463 0)))) (cN 465 (cN 463 (cL 463 (o_push 465 21)) (cL 465 (o_iald 466))) (cN 466 (cL 466 (o_icmp_ge 518 469)) (cL 469 (o_aload 470 0))))))))) (cN 546 (cN 505 (cN 486 (cN 477 (cN 472 (cN 470 (cL 470 (o_push 471 5)) (cN 471 (cL 471 (o_iald 472)) (cL 472 (o_if_le 512 475)))) (cN 475 (cL 475 (o_aload 476 1)) (cN 476 (cL 476 (o_push 477 5)) (cL 477 (o_iload 479 9))))) (cN 481 (cN 479 (cL 479 (o_imul 480)) (cN 480 (cL 480 (o_push 481 3)) (cL 481 (o_iadd 482)))) (cN 483 (cN 482 (cL 482 (o_iald 483)) (cL 483 (o_aload 484 0))) (cN 484 (cL 484 (o_push 486 6)) (cL 486 (o_iald 487)))))) (cN 494 (cN 489 (cN 487 (cL 487 (o_aload 488 0)) (cN 488 (cL 488 (o_push 489 5)) (cL 489 (o_iald 490)))) (cN 490 (cL 490 (o_isub 491)) (cN 491 (cL 491 (o_icmp_ge 512 494)) (cL 494 (o_aload 495 0))))) (cN 498 (cN 495 (cL 495 (o_aload 496 1)) (cN 496 (cL 496 (o_iload 498 9)) (cL 498 (o_callS 501 3 tL_gone 0 0)))) (cN 502 (cN 501 (cL 501 (o_aload 502 0)) (cL 502 (o_push 504 10))) (cN 504 (cL 504 (o_dup2 505)) (cL 505 (o_iald 506))))))) (cN 528 (cN 515 (cN 508 (cN 506 (cL 506 (o_push 507 1)) (cN 507 (cL 507 (o_iadd 508)) (cL 508 (o_iast 509)))) (cN 509 (cL 509 (o_iinc 512 9 (-1))) (cN 512 (cL 512 (o_iinc 515 9 1)) (cL 515 (o_goto 460))))) (cN 521 (cN 518 (cL 518 (o_aload 519 0)) (cN 519 (cL 519 (o_push 521 18)) (cL 521 (o_aload 522 0)))) (cN 524 (cN 522 (cL 522 (o_push 524 18)) (cL 524 (o_iald 525))) (cN 525 (cL 525 (o_if_le 537 528)) (cL 528 (o_aload 529 0)))))) (cN 537 (cN 532 (cN 529 (cL 529 (o_push 531 18)) (cN 531 (cL 531 (o_iald 532)) (cL 532 (o_push 533 1)))) (cN 533 (cL 533 (o_isub 534)) (cN 534 (cL 534 (o_goto 538)) (cL 537 (o_push 538 0))))) (cN 540 (cN 538 (cL 538 (o_iast 539)) (cN 539 (cL 539 (o_aload 540 0)) (cL 540 (o_push 542 19)))) (cN 543 (cN 542 (cL 542 (o_aload 543 0)) (cL 543 (o_push 545 18))) (cN 545 (cL 545 (o_iald 546)) (cL 546 (o_aload 547 0)))))))) (cN 582 (cN 564 (cN 556 (cN 549 (cN 547 (cL 547 (o_push 548 4)) (cN 548 (cL 548 (o_iald 549)) (cL 549 (o_icmp_lt 556 552)))) (cN 552 (cL 552 (o_push 553 1)) (cN 553 (cL 553 (o_goto 582)) (cL 556 (o_push 557 2))))) (cN 560 (cN 557 (cL 557 (o_aload 558 0)) (cN 558 (cL 558 (o_push 560 18)) (cL 560 (o_iald 561)))) (cN 562 (cN 561 (cL 561 (o_imul 562)) (cL 562 (o_aload 563 0))) (cN 563 (cL 563 (o_push 564 4)) (cL 564 (o_iald 565)))))) (cN 570 (cN 567 (cN 565 (cL 565 (o_aload 566 0)) (cN 566 (cL 566 (o_push 567 4)) (cL 567 (o_iald 568)))) (cN 568 (cL 568 (o_push 569 2)) (cN 569 (cL 569 (o_irem 570)) (cL 570 (o_isub 571))))) (cN 575 (cN 571 (cL 571 (o_icmp_gt 578 574)) (cN 574 (cL 574 (o_push 575 0)) (cL 575 (o_goto 582)))) (cN 579 (cN 578 (cL 578 (o_aload 579 0)) (cL 579 (o_push 581 19))) (cN 581 (cL 581 (o_iald 582)) (cL 582 (o_iast 583))))))) (cN 601 (cN 590 (cN 586 (cN 583 (cL 583 (o_aload 584 0)) (cN 584 (cL 584 (o_push 586 15)) (cL 586 (o_aload 587 0)))) (cN 587 (cL 587 (o_push 589 18)) (cN 589 (cL 589 (o_iald 590)) (cL 590 (o_aload 591 0))))) (cN 594 (cN 591 (cL 591 (o_push 593 15)) (cN 593 (cL 593 (o_iald 594)) (cL 594 (o_icmp_le 604 597)))) (cN 598 (cN 597 (cL 597 (o_aload 598 0)) (cL 598 (o_push 600 18))) (cN 600 (cL 600 (o_iald 601)) (cL 601 (o_goto 608)))))) (cN 610 (cN 607 (cN 604 (cL 604 (o_aload 605 0)) (cN 605 (cL 605 (o_push 607 15)) (cL 607 (o_iald 608)))) (cN 608 (cL 608 (o_iast 609)) (cN 609 (cL 609 (o_aload 610 0)) (cL 610 (o_push 612 6))))) (cN 614 (cN 612 (cL 612 (o_dup2 613)) (cN 613 (cL 613 (o_iald 614)) (cL 614 (o_push 615 1)))) (cN 616 (cN 615 (cL 615 (o_iadd 616)) (cL 616 (o_iast 617))) (cN 617 (cL 617 (o_iload 619 5)) (cL 619 (o_zret))))))))))
theorem sL_tick : ∀ pc, Snd tL_tick G1 pc (kL_tick pc) := s_N (s_N (s_N (s_N (s_N (s_N (s_N (s_N (s_L (s_aload_n dL_tick_0 rfl)) (s_N (s_L (s_aload_n dL_tick_1 rfl)) (s_L (s_aload_n dL_tick_2 rfl)))) (s_N (s_L (s_iconst dL_tick_3 (by decide +kernel))) (s_N (s_L (s_iald dL_tick_4)) (s_L (s_callS (d' := tL_target) (mc := 0) (ms := 0) cc_L_tick_L_target qw_588 qw_589 dL_tick_5))))) (s_N (s_N (s_L (s_istore dL_tick_8 (by decide))) (s_N (s_L (s_iconst dL_tick_10 (by decide +kernel))) (s_L (s_istore dL_tick_11 (by decide))))) (s_N (s_N (s_L (s_iload dL_tick_13)) (s_L (s_bipush dL_tick_15 (by decide +kernel)))) (s_N (s_L (s_o_icmp_le dL_tick_17 (by decide))) (s_L (s_iinc (v := (-100)) dL_tick_20 (by decide +kernel) (by decide))))))) (s_N (s_N (s_N (s_L (s_aload_n dL_tick_23 rfl)) (s_N (s_L (s_bipush dL_tick_24 (by decide +kernel))) (s_L (s_iconst dL_tick_26 (by decide +kernel))))) (s_N (s_L (s_aload_n dL_tick_27 rfl)) (s_N (s_L (s_bipush dL_tick_28 (by decide +kernel))) (s_L (s_iald dL_tick_30))))) (s_N (s_N (s_L (s_o_isub dL_tick_31)) (s_N (s_L (s_iast dL_tick_32)) (s_L (s_iload dL_tick_33)))) (s_N (s_N (s_L (s_o_if_ge dL_tick_35 (by decide))) (s_L (s_iconst dL_tick_38 (by decide +kernel)))) (s_N (s_L (s_o_goto dL_tick_39 (by decide))) (s_L (s_aload_n dL_tick_42 rfl))))))) (s_N (s_N (s_N (s_N (s_L (s_iconst dL_tick_43 (by decide +kernel))) (s_N (s_L (s_iload dL_tick_44)) (s_L (s_o_imul dL_tick_46)))) (s_N (s_L (s_iconst dL_tick_47 (by decide +kernel))) (s_N (s_L (s_o_iadd dL_tick_48)) (s_L (s_iald dL_tick_49))))) (s_N (s_N (s_L (s_aload_n dL_tick_50 rfl)) (s_N (s_L (s_bipush dL_tick_51 (by decide +kernel))) (s_L (s_iald dL_tick_53)))) (s_N (s_N (s_L (s_o_isub dL_tick_54)) (s_L (s_istore dL_tick_55 (by decide)))) (s_N (s_L (s_aload_n dL_tick_57 rfl)) (s_L (s_bipush dL_tick_58 (by decide +kernel))))))) (s_N (s_N (s_N (s_L (s_iald dL_tick_60)) (s_N (s_L (s_istore dL_tick_61 (by decide))) (s_L (s_aload_n dL_tick_63 rfl)))) (s_N (s_L (s_bipush dL_tick_64 (by decide +kernel))) (s_N (s_L (s_o_dup2 dL_tick_66)) (s_L (s_iald dL_tick_67))))) (s_N (s_N (s_L (s_aload_n dL_tick_68 rfl)) (s_N (s_L (s_bipush dL_tick_69 (by decide +kernel))) (s_L (s_iald dL_tick_71)))) (s_N (s_N (s_L (s_o_iadd dL_tick_72)) (s_L (s_iast dL_tick_73))) (s_N (s_L (s_iload dL_tick_74)) (s_L (s_iconst dL_tick_76 (by decide +kernel))))))))) (s_N (s_N (s_N (s_N (s_N (s_L (s_o_icmp_ne dL_tick_77 (by decide))) (s_N (s_L (s_iload dL_tick_80)) (s_L (s_o_if_le dL_tick_82 (by decide))))) (s_N (s_L (s_iconst dL_tick_85 (by decide +kernel))) (s_N (s_L (s_o_goto dL_tick_86 (by decide))) (s_L (s_iconst dL_tick_89 (by decide +kernel)))))) (s_N (s_N (s_L (s_o_goto dL_tick_90 (by decide))) (s_N (s_L (s_iload dL_tick_93)) (s_L (s_iconst dL_tick_95 (by decide +kernel))))) (s_N (s_N (s_L (s_o_icmp_ne dL_tick_96 (by decide))) (s_L (s_iload dL_tick_99))) (s_N (s_L (s_o_if_ge dL_tick_101 (by decide))) (s_L (s_iconst dL_tick_104 (by decide +kernel))))))) (s_N (s_N (s_N (s_L (s_o_goto dL_tick_105 (by decide))) (s_N (s_L (s_iconst dL_tick_108 (by decide +kernel))) (s_L (s_o_goto dL_tick_109 (by decide))))) (s_N (s_L (s_iload dL_tick_112)) (s_N (s_L (s_o_if_eq dL_tick_114 (by decide))) (s_L (s_aload_n dL_tick_117 rfl))))) (s_N (s_N (s_L (s_bipush dL_tick_118 (by decide +kernel))) (s_N (s_L (s_iald dL_tick_120)) (s_L (s_o_if_ne dL_tick_121 (by decide))))) (s_N (s_N (s_L (s_iconst dL_tick_124 (by decide +kernel))) (s_L (s_o_goto dL_tick_125 (by decide)))) (s_N (s_L (s_iconst dL_tick_128 (by decide +kernel))) (s_L (s_istore dL_tick_129 (by decide)))))))) (s_N (s_N (s_N (s_N (s_L (s_iload dL_tick_131)) (s_N (s_L (s_o_if_eq dL_tick_133 (by decide))) (s_L (s_aload_n dL_tick_136 rfl)))) (s_N (s_L (s_bipush dL_tick_137 (by decide +kernel))) (s_N (s_L (s_o_dup2 dL_tick_139)) (s_L (s_iald dL_tick_140))))) (s_N (s_N (s_L (s_iload dL_tick_141)) (s_N (s_L (s_o_if_ne dL_tick_143 (by decide))) (s_L (s_iconst dL_tick_146 (by decide +kernel))))) (s_N (s_N (s_L (s_o_goto dL_tick_147 (by decide))) (s_L (s_iconst dL_tick_150 (by decide +kernel)))) (s_N (s_L (s_o_iadd dL_tick_151)) (s_L (s_iast dL_tick_152)))))) (s_N (s_N (s_N (s_L (s_aload_n dL_tick_153 rfl)) (s_N (s_L (s_bipush dL_tick_154 (by decide +kernel))) (s_L (s_o_dup2 dL_tick_156)))) (s_N (s_L (s_iald dL_tick_157)) (s_N (s_L (s_iload dL_tick_158)) (s_L (s_o_if_ne dL_tick_160 (by decide)))))) (s_N (s_N (s_L (s_iconst dL_tick_163 (by decide +kernel))) (s_N (s_L (s_o_goto dL_tick_164 (by decide))) (s_L (s_iconst dL_tick_167 (by decide +kernel))))) (s_N (s_N (s_L (s_o_iadd dL_tick_168)) (s_L (s_iast dL_tick_169))) (s_N (s_L (s_aload_n dL_tick_170 rfl)) (s_L (s_bipush dL_tick_171 (by decide +kernel)))))))))) (s_N (s_N (s_N (s_N (s_N (s_N (s_L (s_iload dL_tick_173)) (s_N (s_L (s_o_if_le dL_tick_175 (by decide))) (s_L (s_iconst dL_tick_178 (by decide +kernel))))) (s_N (s_L (s_o_goto dL_tick_179 (by decide))) (s_N (s_L (s_iconst dL_tick_182 (by decide +kernel))) (s_L (s_iast dL_tick_183))))) (s_N (s_N (s_L (s_aload_n dL_tick_184 rfl)) (s_N (s_L (s_bipush dL_tick_185 (by decide +kernel))) (s_L (s_o_dup2 dL_tick_187)))) (s_N (s_N (s_L (s_iald dL_tick_188)) (s_L (s_iload dL_tick_189))) (s_N (s_L (s_o_if_le dL_tick_191 (by decide))) (s_L (s_iconst dL_tick_194 (by decide +kernel))))))) (s_N (s_N (s_N (s_L (s_o_goto dL_tick_195 (by decide))) (s_N (s_L (s_iconst dL_tick_198 (by decide +kernel))) (s_L (s_o_iadd dL_tick_199)))) (s_N (s_L (s_iast dL_tick_200)) (s_N (s_L (s_aload_n dL_tick_201 rfl)) (s_L (s_bipush dL_tick_202 (by decide +kernel)))))) (s_N (s_N (s_L (s_o_dup2 dL_tick_204)) (s_N (s_L (s_iald dL_tick_205)) (s_L (s_iconst dL_tick_206 (by decide +kernel))))) (s_N (s_N (s_L (s_o_iadd dL_tick_207)) (s_L (s_iast dL_tick_208))) (s_N (s_L (s_o_goto dL_tick_209 (by decide))) (s_L (s_iload dL_tick_212))))))) (s_N (s_N (s_N (s_N (s_L (s_o_if_le dL_tick_214 (by decide))) (s_N (s_L (s_aload_n dL_tick_217 rfl)) (s_L (s_bipush dL_tick_218 (by decide +kernel))))) (s_N (s_L (s_iconst dL_tick_220 (by decide +kernel))) (s_N (s_L (s_iast dL_tick_221)) (s_L (s_aload_n dL_tick_222 rfl))))) (s_N (s_N (s_L (s_bipush dL_tick_223 (by decide +kernel))) (s_N (s_L (s_o_dup2 dL_tick_225)) (s_L (s_iald dL_tick_226)))) (s_N (s_N (s_L (s_aload_n dL_tick_227 rfl)) (s_L (s_iconst dL_tick_228 (by decide +kernel)))) (s_N (s_L (s_iald dL_tick_229)) (s_L (s_o_iadd dL_tick_230)))))) (s_N (s_N (s_N (s_L (s_iast dL_tick_231)) (s_N (s_L (s_aload_n dL_tick_232 rfl)) (s_L (s_bipush dL_tick_233 (by decide +kernel))))) (s_N (s_L (s_o_dup2 dL_tick_235)) (s_N (s_L (s_iald dL_tick_236)) (s_L (s_iconst dL_tick_237 (by decide +kernel)))))) (s_N (s_N (s_L (s_o_iadd dL_tick_238)) (s_N (s_L (s_iast dL_tick_239)) (s_L (s_iconst dL_tick_240 (by decide +kernel))))) (s_N (s_N (s_L (s_istore dL_tick_241 (by decide))) (s_L (s_iload dL_tick_243))) (s_N (s_L (s_aload_n dL_tick_245 rfl)) (s_L (s_bipush dL_tick_246 (by decide +kernel))))))))) (s_N (s_N (s_N (s_N (s_N (s_L (s_iald dL_tick_248)) (s_N (s_L (s_o_icmp_ge dL_tick_249 (by decide))) (s_L (s_iload dL_tick_252)))) (s_N (s_L (s_aload_n dL_tick_254 rfl)) (s_N (s_L (s_bipush dL_tick_255 (by decide +kernel))) (s_L (s_iald dL_tick_257))))) (s_N (s_N (s_L (s_o_iadd dL_tick_258)) (s_N (s_L (s_o_if_ne dL_tick_259 (by decide))) (s_L (s_aload_n dL_tick_262 rfl)))) (s_N (s_N (s_L (s_iconst dL_tick_263 (by decide +kernel))) (s_L (s_iload dL_tick_264))) (s_N (s_L (s_o_imul dL_tick_266)) (s_L (s_iconst dL_tick_267 (by decide +kernel))))))) (s_N (s_N (s_N (s_L (s_o_iadd dL_tick_268)) (s_N (s_L (s_iald dL_tick_269)) (s_L (s_aload_n dL_tick_270 rfl)))) (s_N (s_L (s_bipush dL_tick_271 (by decide +kernel))) (s_N (s_L (s_iald dL_tick_273)) (s_L (s_o_icmp_ne dL_tick_274 (by decide)))))) (s_N (s_N (s_L (s_aload_n dL_tick_277 rfl)) (s_N (s_L (s_iconst dL_tick_278 (by decide +kernel))) (s_L (s_iload dL_tick_279)))) (s_N (s_N (s_L (s_o_imul dL_tick_281)) (s_L (s_iconst dL_tick_282 (by decide +kernel)))) (s_N (s_L (s_o_iadd dL_tick_283)) (s_L (s_iald dL_tick_284))))))) (s_N (s_N (s_N (s_N (s_L (s_aload_n dL_tick_285 rfl)) (s_N (s_L (s_bipush dL_tick_286 (by decide +kernel))) (s_L (s_iald dL_tick_288)))) (s_N (s_L (s_aload_n dL_tick_289 rfl)) (s_N (s_L (s_iconst dL_tick_290 (by decide +kernel))) (s_L (s_iald dL_tick_291))))) (s_N (s_N (s_L (s_o_irem dL_tick_292)) (s_N (s_L (s_o_icmp_ne dL_tick_293 (by decide))) (s_L (s_bipush dL_tick_296 (by decide +kernel))))) (s_N (s_N (s_L (s_istore dL_tick_298 (by decide))) (s_L (s_iload dL_tick_300))) (s_N (s_L (s_iconst dL_tick_302 (by decide +kernel))) (s_L (s_o_icmp_le dL_tick_303 (by decide))))))) (s_N (s_N (s_N (s_L (s_aload_n dL_tick_306 rfl)) (s_N (s_L (s_iload dL_tick_307)) (s_L (s_aload_n dL_tick_309 rfl)))) (s_N (s_L (s_iload dL_tick_310)) (s_N (s_L (s_iconst dL_tick_312 (by decide +kernel))) (s_L (s_o_isub dL_tick_313))))) (s_N (s_N (s_L (s_iald dL_tick_314)) (s_N (s_L (s_iast dL_tick_315)) (s_L (s_iinc (v := (-1)) dL_tick_316 (by decide +kernel) (by decide))))) (s_N (s_N (s_L (s_o_goto dL_tick_319 (by decide))) (s_L (s_aload_n dL_tick_322 rfl))) (s_N (s_L (s_iconst dL_tick_323 (by decide +kernel))) (s_L (s_aload_n dL_tick_324 rfl)))))))))) (s_N (s_N (s_N (s_N (s_N (s_N (s_N (s_L (s_iconst dL_tick_325 (by decide +kernel))) (s_N (s_L (s_iload dL_tick_326)) (s_L (s_o_imul dL_tick_328)))) (s_N (s_L (s_iald dL_tick_329)) (s_N (s_L (s_iast dL_tick_330)) (s_L (s_aload_n dL_tick_331 rfl))))) (s_N (s_N (s_L (s_iconst dL_tick_332 (by decide +kernel))) (s_N (s_L (s_aload_n dL_tick_333 rfl)) (s_L (s_iconst dL_tick_334 (by decide +kernel))))) (s_N (s_N (s_L (s_iload dL_tick_335)) (s_L (s_o_imul dL_tick_337))) (s_N (s_L (s_iconst dL_tick_338 (by decide +kernel))) (s_L (s_o_iadd dL_tick_339)))))) (s_N (s_N (s_N (s_L (s_iald dL_tick_340)) (s_N (s_L (s_iast dL_tick_341)) (s_L (s_aload_n dL_tick_342 rfl)))) (s_N (s_L (s_iconst dL_tick_343 (by decide +kernel))) (s_N (s_L (s_aload_n dL_tick_344 rfl)) (s_L (s_iconst dL_tick_345 (by decide +kernel)))))) (s_N (s_N (s_L (s_iload dL_tick_346)) (s_N (s_L (s_o_imul dL_tick_348)) (s_L (s_iconst dL_tick_349 (by decide +kernel))))) (s_N (s_N (s_L (s_o_iadd dL_tick_350)) (s_L (s_iald dL_tick_351))) (s_N (s_L (s_iast dL_tick_352)) (s_L (s_aload_n dL_tick_353 rfl))))))) (s_N (s_N (s_N (s_N (s_L (s_iconst dL_tick_354 (by decide +kernel))) (s_N (s_L (s_aload_n dL_tick_355 rfl)) (s_L (s_bipush dL_tick_356 (by decide +kernel))))) (s_N (s_L (s_iald dL_tick_358)) (s_N (s_L (s_iast dL_tick_359)) (s_L (s_aload_n dL_tick_360 rfl))))) (s_N (s_N (s_L (s_iconst dL_tick_361 (by decide +kernel))) (s_N (s_L (s_aload_n dL_tick_362 rfl)) (s_L (s_iconst dL_tick_363 (by decide +kernel))))) (s_N (s_N (s_L (s_iload dL_tick_364)) (s_L (s_o_imul dL_tick_366))) (s_N (s_L (s_iconst dL_tick_367 (by decide +kernel))) (s_L (s_o_iadd dL_tick_368)))))) (s_N (s_N (s_N (s_L (s_iald dL_tick_369)) (s_N (s_L (s_aload_n dL_tick_370 rfl)) (s_L (s_bipush dL_tick_371 (by decide +kernel))))) (s_N (s_L (s_iald dL_tick_373)) (s_N (s_L (s_o_icmp_ge dL_tick_374 (by decide))) (s_L (s_iconst dL_tick_377 (by decide +kernel)))))) (s_N (s_N (s_L (s_o_goto dL_tick_378 (by decide))) (s_N (s_L (s_iconst dL_tick_381 (by decide +kernel))) (s_L (s_iast dL_tick_382)))) (s_N (s_N (s_L (s_iload dL_tick_383)) (s_L (s_o_if_ne dL_tick_385 (by decide)))) (s_N (s_L (s_aload_n dL_tick_388 rfl)) (s_L (s_iconst dL_tick_389 (by decide +kernel))))))))) (s_N (s_N (s_N (s_N (s_N (s_L (s_iald dL_tick_390)) (s_N (s_L (s_iload_n dL_tick_391 rfl)) (s_L (s_o_icmp_ne dL_tick_392 (by decide))))) (s_N (s_L (s_iconst dL_tick_395 (by decide +kernel))) (s_N (s_L (s_o_goto dL_tick_396 (by decide))) (s_L (s_iconst dL_tick_399 (by decide +kernel)))))) (s_N (s_N (s_L (s_istore dL_tick_400 (by decide))) (s_N (s_L (s_aload_n dL_tick_402 rfl)) (s_L (s_bipush dL_tick_403 (by decide +kernel))))) (s_N (s_N (s_L (s_o_dup2 dL_tick_405)) (s_L (s_iald dL_tick_406))) (s_N (s_L (s_aload_n dL_tick_407 rfl)) (s_L (s_iconst dL_tick_408 (by decide +kernel))))))) (s_N (s_N (s_N (s_L (s_iald dL_tick_409)) (s_N (s_L (s_o_iadd dL_tick_410)) (s_L (s_iast dL_tick_411)))) (s_N (s_L (s_aload_n dL_tick_412 rfl)) (s_N (s_L (s_bipush dL_tick_413 (by decide +kernel))) (s_L (s_o_dup2 dL_tick_415))))) (s_N (s_N (s_L (s_iald dL_tick_416)) (s_N (s_L (s_iconst dL_tick_417 (by decide +kernel))) (s_L (s_o_iadd dL_tick_418)))) (s_N (s_N (s_L (s_iast dL_tick_419)) (s_L (s_aload_n dL_tick_420 rfl))) (s_N (s_L (s_bipush dL_tick_421 (by decide +kernel))) (s_L (s_o_dup2 dL_tick_423))))))) (s_N (s_N (s_N (s_N (s_L (s_iald dL_tick_424)) (s_N (s_L (s_aload_n dL_tick_425 rfl)) (s_L (s_bipush dL_tick_426 (by decide +kernel))))) (s_N (s_L (s_iald dL_tick_428)) (s_N (s_L (s_bipush dL_tick_429 (by decide +kernel))) (s_L (s_o_icmp_ge dL_tick_431 (by decide)))))) (s_N (s_N (s_L (s_iconst dL_tick_434 (by decide +kernel))) (s_N (s_L (s_o_goto dL_tick_435 (by decide))) (s_L (s_iconst dL_tick_438 (by decide +kernel))))) (s_N (s_N (s_L (s_o_iadd dL_tick_439)) (s_L (s_iast dL_tick_440))) (s_N (s_L (s_aload_n dL_tick_441 rfl)) (s_L (s_aload_n dL_tick_442 rfl)))))) (s_N (s_N (s_N (s_L (s_iload dL_tick_443)) (s_N (s_L (s_callS (d' := tL_gone) (mc := 0) (ms := 0) cc_L_tick_L_gone qw_488 qw_489 dL_tick_445)) (s_L (s_iinc (v := (-1)) dL_tick_448 (by decide +kernel) (by decide))))) (s_N (s_L (s_iinc (v := 1) dL_tick_451 (by decide +kernel) (by decide))) (s_N (s_L (s_o_goto dL_tick_454 (by decide))) (s_L (s_iconst dL_tick_457 (by decide +kernel)))))) (s_N (s_N (s_L (s_istore dL_tick_458 (by decide))) (s_N (s_L (s_iload dL_tick_460)) (s_L (s_aload_n dL_tick_462 rfl)))) (s_N (s_N (s_L (s_bipush dL_tick_463 (by decide +kernel))) (s_L (s_iald dL_tick_465))) (s_N (s_L (s_o_icmp_ge dL_tick_466 (by decide))) (s_L (s_aload_n dL_tick_469 rfl))))))))) (s_N (s_N (s_N (s_N (s_N (s_N (s_L (s_iconst dL_tick_470 (by decide +kernel))) (s_N (s_L (s_iald dL_tick_471)) (s_L (s_o_if_le dL_tick_472 (by decide))))) (s_N (s_L (s_aload_n dL_tick_475 rfl)) (s_N (s_L (s_iconst dL_tick_476 (by decide +kernel))) (s_L (s_iload dL_tick_477))))) (s_N (s_N (s_L (s_o_imul dL_tick_479)) (s_N (s_L (s_iconst dL_tick_480 (by decide +kernel))) (s_L (s_o_iadd dL_tick_481)))) (s_N (s_N (s_L (s_iald dL_tick_482)) (s_L (s_aload_n dL_tick_483 rfl))) (s_N (s_L (s_bipush dL_tick_484 (by decide +kernel))) (s_L (s_iald dL_tick_486)))))) (s_N (s_N (s_N (s_L (s_aload_n dL_tick_487 rfl)) (s_N (s_L (s_iconst dL_tick_488 (by decide +kernel))) (s_L (s_iald dL_tick_489)))) (s_N (s_L (s_o_isub dL_tick_490)) (s_N (s_L (s_o_icmp_ge dL_tick_491 (by decide))) (s_L (s_aload_n dL_tick_494 rfl))))) (s_N (s_N (s_L (s_aload_n dL_tick_495 rfl)) (s_N (s_L (s_iload dL_tick_496)) (s_L (s_callS (d' := tL_gone) (mc := 0) (ms := 0) cc_L_tick_L_gone qw_488 qw_489 dL_tick_498)))) (s_N (s_N (s_L (s_aload_n dL_tick_501 rfl)) (s_L (s_bipush dL_tick_502 (by decide +kernel)))) (s_N (s_L (s_o_dup2 dL_tick_504)) (s_L (s_iald dL_tick_505))))))) (s_N (s_N (s_N (s_N (s_L (s_iconst dL_tick_506 (by decide +kernel))) (s_N (s_L (s_o_iadd dL_tick_507)) (s_L (s_iast dL_tick_508)))) (s_N (s_L (s_iinc (v := (-1)) dL_tick_509 (by decide +kernel) (by decide))) (s_N (s_L (s_iinc (v := 1) dL_tick_512 (by decide +kernel) (by decide))) (s_L (s_o_goto dL_tick_515 (by decide)))))) (s_N (s_N (s_L (s_aload_n dL_tick_518 rfl)) (s_N (s_L (s_bipush dL_tick_519 (by decide +kernel))) (s_L (s_aload_n dL_tick_521 rfl)))) (s_N (s_N (s_L (s_bipush dL_tick_522 (by decide +kernel))) (s_L (s_iald dL_tick_524))) (s_N (s_L (s_o_if_le dL_tick_525 (by decide))) (s_L (s_aload_n dL_tick_528 rfl)))))) (s_N (s_N (s_N (s_L (s_bipush dL_tick_529 (by decide +kernel))) (s_N (s_L (s_iald dL_tick_531)) (s_L (s_iconst dL_tick_532 (by decide +kernel))))) (s_N (s_L (s_o_isub dL_tick_533)) (s_N (s_L (s_o_goto dL_tick_534 (by decide))) (s_L (s_iconst dL_tick_537 (by decide +kernel)))))) (s_N (s_N (s_L (s_iast dL_tick_538)) (s_N (s_L (s_aload_n dL_tick_539 rfl)) (s_L (s_bipush dL_tick_540 (by decide +kernel))))) (s_N (s_N (s_L (s_aload_n dL_tick_542 rfl)) (s_L (s_bipush dL_tick_543 (by decide +kernel)))) (s_N (s_L (s_iald dL_tick_545)) (s_L (s_aload_n dL_tick_546 rfl)))))))) (s_N (s_N (s_N (s_N (s_N (s_L (s_iconst dL_tick_547 (by decide +kernel))) (s_N (s_L (s_iald dL_tick_548)) (s_L (s_o_icmp_lt dL_tick_549 (by decide))))) (s_N (s_L (s_iconst dL_tick_552 (by decide +kernel))) (s_N (s_L (s_o_goto dL_tick_553 (by decide))) (s_L (s_iconst dL_tick_556 (by decide +kernel)))))) (s_N (s_N (s_L (s_aload_n dL_tick_557 rfl)) (s_N (s_L (s_bipush dL_tick_558 (by decide +kernel))) (s_L (s_iald dL_tick_560)))) (s_N (s_N (s_L (s_o_imul dL_tick_561)) (s_L (s_aload_n dL_tick_562 rfl))) (s_N (s_L (s_iconst dL_tick_563 (by decide +kernel))) (s_L (s_iald dL_tick_564)))))) (s_N (s_N (s_N (s_L (s_aload_n dL_tick_565 rfl)) (s_N (s_L (s_iconst dL_tick_566 (by decide +kernel))) (s_L (s_iald dL_tick_567)))) (s_N (s_L (s_iconst dL_tick_568 (by decide +kernel))) (s_N (s_L (s_o_irem dL_tick_569)) (s_L (s_o_isub dL_tick_570))))) (s_N (s_N (s_L (s_o_icmp_gt dL_tick_571 (by decide))) (s_N (s_L (s_iconst dL_tick_574 (by decide +kernel))) (s_L (s_o_goto dL_tick_575 (by decide))))) (s_N (s_N (s_L (s_aload_n dL_tick_578 rfl)) (s_L (s_bipush dL_tick_579 (by decide +kernel)))) (s_N (s_L (s_iald dL_tick_581)) (s_L (s_iast dL_tick_582))))))) (s_N (s_N (s_N (s_N (s_L (s_aload_n dL_tick_583 rfl)) (s_N (s_L (s_bipush dL_tick_584 (by decide +kernel))) (s_L (s_aload_n dL_tick_586 rfl)))) (s_N (s_L (s_bipush dL_tick_587 (by decide +kernel))) (s_N (s_L (s_iald dL_tick_589)) (s_L (s_aload_n dL_tick_590 rfl))))) (s_N (s_N (s_L (s_bipush dL_tick_591 (by decide +kernel))) (s_N (s_L (s_iald dL_tick_593)) (s_L (s_o_icmp_le dL_tick_594 (by decide))))) (s_N (s_N (s_L (s_aload_n dL_tick_597 rfl)) (s_L (s_bipush dL_tick_598 (by decide +kernel)))) (s_N (s_L (s_iald dL_tick_600)) (s_L (s_o_goto dL_tick_601 (by decide))))))) (s_N (s_N (s_N (s_L (s_aload_n dL_tick_604 rfl)) (s_N (s_L (s_bipush dL_tick_605 (by decide +kernel))) (s_L (s_iald dL_tick_607)))) (s_N (s_L (s_iast dL_tick_608)) (s_N (s_L (s_aload_n dL_tick_609 rfl)) (s_L (s_bipush dL_tick_610 (by decide +kernel)))))) (s_N (s_N (s_L (s_o_dup2 dL_tick_612)) (s_N (s_L (s_iald dL_tick_613)) (s_L (s_iconst dL_tick_614 (by decide +kernel))))) (s_N (s_N (s_L (s_o_iadd dL_tick_615)) (s_L (s_iast dL_tick_616))) (s_N (s_L (s_iload dL_tick_617)) (s_L (s_zret rfl dL_tick_619))))))))))
/-! L_finish -/
def tL_finish : TrD := (yL_finish, cL_finish, 4, some .int, 3, 80)
theorem dL_finish_0 : decode cL_finish 0 = .ok (.iconst 0, 1) := by decide +kernel
theorem dL_finish_1 : decode cL_finish 1 = .ok (.istore_n 3, 1) := by decide +kernel
theorem dL_finish_2 : decode cL_finish 2 = .ok (.aload_n 0, 1) := by decide +kernel
theorem dL_finish_3 : decode cL_finish 3 = .ok (.bipush 21, 2) := by decide +kernel
theorem dL_finish_5 : decode cL_finish 5 = .ok (.iaload, 1) := by decide +kernel
theorem dL_finish_6 : decode cL_finish 6 = .ok (.ifCond .le 31, 3) := by decide +kernel
theorem dL_finish_9 : decode cL_finish 9 = .ok (.iload_n 3, 1) := by decide +kernel
theorem dL_finish_10 : decode cL_finish 10 = .ok (.sipush 500, 3) := by decide +kernel
theorem dL_finish_13 : decode cL_finish 13 = .ok (.if_icmp .ge 24, 3) := by decide +kernel
theorem dL_finish_16 : decode cL_finish 16 = .ok (.iload_n 3, 1) := by decide +kernel
theorem dL_finish_17 : decode cL_finish 17 = .ok (.aload_n 0, 1) := by decide +kernel
theorem dL_finish_18 : decode cL_finish 18 = .ok (.aload_n 1, 1) := by decide +kernel
theorem dL_finish_19 : decode cL_finish 19 = .ok (.aload_n 2, 1) := by decide +kernel
theorem dL_finish_20 : decode cL_finish 20 = .ok (.iconst (-1), 1) := by decide +kernel
theorem dL_finish_21 : decode cL_finish 21 = .ok (.invokestatic 56, 3) := by decide +kernel
theorem dL_finish_24 : decode cL_finish 24 = .ok (.ifCond .eq 7, 3) := by decide +kernel
theorem dL_finish_27 : decode cL_finish 27 = .ok (.iconst 2, 1) := by decide +kernel
theorem dL_finish_28 : decode cL_finish 28 = .ok (.goto 4, 3) := by decide +kernel
theorem dL_finish_31 : decode cL_finish 31 = .ok (.iconst 1, 1) := by decide +kernel
theorem dL_finish_32 : decode cL_finish 32 = .ok (.iadd, 1) := by decide +kernel
theorem dL_finish_33 : decode cL_finish 33 = .ok (.istore_n 3, 1) := by decide +kernel
theorem dL_finish_34 : decode cL_finish 34 = .ok (.goto (-32), 3) := by decide +kernel
theorem dL_finish_37 : decode cL_finish 37 = .ok (.iload_n 3, 1) := by decide +kernel
theorem dL_finish_38 : decode cL_finish 38 = .ok (.ireturn, 1) := by decide +kernel
theorem cc_L_finish_L_tick : CallC tL_finish tL_tick 4 := ⟨by decide +kernel, by decide +kernel, by decide +kernel, by decide, by decide, qw_14, qw_587⟩
def kL_finish : Nat → WOp := cN 18 (cN 6 (cN 2 (cN 0 (cL 0 (o_push 1 0)) (cN 1 (cL 1 (o_istore 2 3)) (cL 2 (o_aload 3 0)))) (cN 3 (cL 3 (o_push 5 21)) (cN 5 (cL 5 (o_iald 6)) (cL 6 (o_if_le 37 9))))) (cN 13 (cN 9 (cL 9 (o_iload 10 3)) (cN 10 (cL 10 (o_push 13 500)) (cL 13 (o_icmp_ge 37 16)))) (cN 16 (cL 16 (o_iload 17 3)) (cN 17 (cL 17 (o_aload 18 0)) (cL 18 (o_aload 19 1)))))) (cN 28 (cN 21 (cN 19 (cL 19 (o_aload 20 2)) (cN 20 (cL 20 (o_push 21 (-1))) (cL 21 (o_callS 24 4 tL_tick 0 0)))) (cN 24 (cL 24 (o_if_eq 31 27)) (cN 27 (cL 27 (o_push 28 2)) (cL 28 (o_goto 32))))) (cN 33 (cN 31 (cL 31 (o_push 32 1)) (cN 32 (cL 32 (o_iadd 33)) (cL 33 (o_istore 34 3)))) (cN 34 (cL 34 (o_goto 2)) (cN 37 (cL 37 (o_iload 38 3)) (cL 38 (o_iret))))))
theorem sL_finish : ∀ pc, Snd tL_finish G1 pc (kL_finish pc) := s_N (s_N (s_N (s_N (s_L (s_iconst dL_finish_0 (by decide +kernel))) (s_N (s_L (s_istore_n dL_finish_1 rfl (by decide))) (s_L (s_aload_n dL_finish_2 rfl)))) (s_N (s_L (s_bipush dL_finish_3 (by decide +kernel))) (s_N (s_L (s_iald dL_finish_5)) (s_L (s_o_if_le dL_finish_6 (by decide)))))) (s_N (s_N (s_L (s_iload_n dL_finish_9 rfl)) (s_N (s_L (s_sipush dL_finish_10 (by decide +kernel))) (s_L (s_o_icmp_ge dL_finish_13 (by decide))))) (s_N (s_L (s_iload_n dL_finish_16 rfl)) (s_N (s_L (s_aload_n dL_finish_17 rfl)) (s_L (s_aload_n dL_finish_18 rfl)))))) (s_N (s_N (s_N (s_L (s_aload_n dL_finish_19 rfl)) (s_N (s_L (s_iconst dL_finish_20 (by decide +kernel))) (s_L (s_callS (d' := tL_tick) (mc := 0) (ms := 0) cc_L_finish_L_tick qw_585 qw_586 dL_finish_21)))) (s_N (s_L (s_o_if_eq dL_finish_24 (by decide))) (s_N (s_L (s_iconst dL_finish_27 (by decide +kernel))) (s_L (s_o_goto dL_finish_28 (by decide)))))) (s_N (s_N (s_L (s_iconst dL_finish_31 (by decide +kernel))) (s_N (s_L (s_o_iadd dL_finish_32)) (s_L (s_istore_n dL_finish_33 rfl (by decide))))) (s_N (s_L (s_o_goto dL_finish_34 (by decide))) (s_N (s_L (s_iload_n dL_finish_37 rfl)) (s_L (s_iret rfl dL_finish_38))))))
/-! L_place -/
def tL_place : TrD := (yL_place, cL_place, 4, some .int, 0, 0)
theorem dL_place_0 : decode cL_place 0 = .ok (.iconst 0, 1) := by decide +kernel
theorem dL_place_1 : decode cL_place 1 = .ok (.istore_n 3, 1) := by decide +kernel
theorem dL_place_2 : decode cL_place 2 = .ok (.iload_n 3, 1) := by decide +kernel
theorem dL_place_3 : decode cL_place 3 = .ok (.aload_n 0, 1) := by decide +kernel
theorem dL_place_4 : decode cL_place 4 = .ok (.bipush 21, 2) := by decide +kernel
theorem dL_place_6 : decode cL_place 6 = .ok (.iaload, 1) := by decide +kernel
theorem dL_place_7 : decode cL_place 7 = .ok (.if_icmp .ge 20, 3) := by decide +kernel
theorem dL_place_10 : decode cL_place 10 = .ok (.aload_n 1, 1) := by decide +kernel
theorem dL_place_11 : decode cL_place 11 = .ok (.iconst 5, 1) := by decide +kernel
theorem dL_place_12 : decode cL_place 12 = .ok (.iload_n 3, 1) := by decide +kernel
theorem dL_place_13 : decode cL_place 13 = .ok (.imul, 1) := by decide +kernel
theorem dL_place_14 : decode cL_place 14 = .ok (.iaload, 1) := by decide +kernel
theorem dL_place_15 : decode cL_place 15 = .ok (.iload_n 2, 1) := by decide +kernel
theorem dL_place_16 : decode cL_place 16 = .ok (.if_icmp .ne 5, 3) := by decide +kernel
theorem dL_place_19 : decode cL_place 19 = .ok (.iload_n 3, 1) := by decide +kernel
theorem dL_place_20 : decode cL_place 20 = .ok (.ireturn, 1) := by decide +kernel
theorem dL_place_21 : decode cL_place 21 = .ok (.iinc 3 1, 3) := by decide +kernel
theorem dL_place_24 : decode cL_place 24 = .ok (.goto (-22), 3) := by decide +kernel
theorem dL_place_27 : decode cL_place 27 = .ok (.iconst (-1), 1) := by decide +kernel
theorem dL_place_28 : decode cL_place 28 = .ok (.ireturn, 1) := by decide +kernel
def kL_place : Nat → WOp := cN 12 (cN 4 (cN 1 (cN 0 (cL 0 (o_push 1 0)) (cL 1 (o_istore 2 3))) (cN 2 (cL 2 (o_iload 3 3)) (cN 3 (cL 3 (o_aload 4 0)) (cL 4 (o_push 6 21))))) (cN 7 (cN 6 (cL 6 (o_iald 7)) (cL 7 (o_icmp_ge 27 10))) (cN 10 (cL 10 (o_aload 11 1)) (cN 11 (cL 11 (o_push 12 5)) (cL 12 (o_iload 13 3)))))) (cN 19 (cN 14 (cN 13 (cL 13 (o_imul 14)) (cL 14 (o_iald 15))) (cN 15 (cL 15 (o_iload 16 2)) (cN 16 (cL 16 (o_icmp_ne 21 19)) (cL 19 (o_iload 20 3))))) (cN 21 (cN 20 (cL 20 (o_iret)) (cL 21 (o_iinc 24 3 1))) (cN 24 (cL 24 (o_goto 2)) (cN 27 (cL 27 (o_push 28 (-1))) (cL 28 (o_iret))))))
theorem sL_place : ∀ pc, Snd tL_place G1 pc (kL_place pc) := s_N (s_N (s_N (s_N (s_L (s_iconst dL_place_0 (by decide +kernel))) (s_L (s_istore_n dL_place_1 rfl (by decide)))) (s_N (s_L (s_iload_n dL_place_2 rfl)) (s_N (s_L (s_aload_n dL_place_3 rfl)) (s_L (s_bipush dL_place_4 (by decide +kernel)))))) (s_N (s_N (s_L (s_iald dL_place_6)) (s_L (s_o_icmp_ge dL_place_7 (by decide)))) (s_N (s_L (s_aload_n dL_place_10 rfl)) (s_N (s_L (s_iconst dL_place_11 (by decide +kernel))) (s_L (s_iload_n dL_place_12 rfl)))))) (s_N (s_N (s_N (s_L (s_o_imul dL_place_13)) (s_L (s_iald dL_place_14))) (s_N (s_L (s_iload_n dL_place_15 rfl)) (s_N (s_L (s_o_icmp_ne dL_place_16 (by decide))) (s_L (s_iload_n dL_place_19 rfl))))) (s_N (s_N (s_L (s_iret rfl dL_place_20)) (s_L (s_iinc (v := 1) dL_place_21 (by decide +kernel) (by decide)))) (s_N (s_L (s_o_goto dL_place_24 (by decide))) (s_N (s_L (s_iconst dL_place_27 (by decide +kernel))) (s_L (s_iret rfl dL_place_28))))))
