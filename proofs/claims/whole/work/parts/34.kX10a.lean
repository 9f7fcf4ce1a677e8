/-! PlateArmModel.<init> -/
theorem dX10_init_0 : decode cX10_init 0 = .ok (.aload_n 0, 1) := by decide +kernel
theorem dX10_init_1 : decode cX10_init 1 = .ok (.invokespecial 1, 3) := by decide +kernel
theorem dX10_init_4 : decode cX10_init 4 = .ok (.aload_n 0, 1) := by decide +kernel
theorem dX10_init_5 : decode cX10_init 5 = .ok (.sipush 133, 3) := by decide +kernel
theorem dX10_init_8 : decode cX10_init 8 = .ok (.newarray .int, 2) := by decide +kernel
theorem dX10_init_10 : decode cX10_init 10 = .ok (.putfield 7, 3) := by decide +kernel
theorem dX10_init_13 : decode cX10_init 13 = .ok (.aload_n 0, 1) := by decide +kernel
theorem dX10_init_14 : decode cX10_init 14 = .ok (.sipush 532, 3) := by decide +kernel
theorem dX10_init_17 : decode cX10_init 17 = .ok (.newarray .int, 2) := by decide +kernel
theorem dX10_init_19 : decode cX10_init 19 = .ok (.putfield 13, 3) := by decide +kernel
theorem dX10_init_22 : decode cX10_init 22 = .ok (.aload_n 0, 1) := by decide +kernel
theorem dX10_init_23 : decode cX10_init 23 = .ok (.sipush 133, 3) := by decide +kernel
theorem dX10_init_26 : decode cX10_init 26 = .ok (.newarray .int, 2) := by decide +kernel
theorem dX10_init_28 : decode cX10_init 28 = .ok (.putfield 16, 3) := by decide +kernel
theorem dX10_init_31 : decode cX10_init 31 = .ok (.aload_n 0, 1) := by decide +kernel
theorem dX10_init_32 : decode cX10_init 32 = .ok (.sipush 150, 3) := by decide +kernel
theorem dX10_init_35 : decode cX10_init 35 = .ok (.newarray .int, 2) := by decide +kernel
theorem dX10_init_37 : decode cX10_init 37 = .ok (.putfield 19, 3) := by decide +kernel
theorem dX10_init_40 : decode cX10_init 40 = .ok (.aload_n 0, 1) := by decide +kernel
theorem dX10_init_41 : decode cX10_init 41 = .ok (.iconst (-1), 1) := by decide +kernel
theorem dX10_init_42 : decode cX10_init 42 = .ok (.putfield 22, 3) := by decide +kernel
theorem dX10_init_45 : decode cX10_init 45 = .ok (.aload_n 0, 1) := by decide +kernel
theorem dX10_init_46 : decode cX10_init 46 = .ok (.iconst 3, 1) := by decide +kernel
theorem dX10_init_47 : decode cX10_init 47 = .ok (.newarray .int, 2) := by decide +kernel
theorem dX10_init_49 : decode cX10_init 49 = .ok (.putfield 26, 3) := by decide +kernel
theorem dX10_init_52 : decode cX10_init 52 = .ok (.aload_n 0, 1) := by decide +kernel
theorem dX10_init_53 : decode cX10_init 53 = .ok (.getfield 7, 3) := by decide +kernel
theorem dX10_init_56 : decode cX10_init 56 = .ok (.iconst 0, 1) := by decide +kernel
theorem dX10_init_57 : decode cX10_init 57 = .ok (.bipush 12, 2) := by decide +kernel
theorem dX10_init_59 : decode cX10_init 59 = .ok (.iastore, 1) := by decide +kernel
theorem dX10_init_60 : decode cX10_init 60 = .ok (.aload_n 0, 1) := by decide +kernel
theorem dX10_init_61 : decode cX10_init 61 = .ok (.getfield 7, 3) := by decide +kernel
theorem dX10_init_64 : decode cX10_init 64 = .ok (.iconst 1, 1) := by decide +kernel
theorem dX10_init_65 : decode cX10_init 65 = .ok (.bipush 6, 2) := by decide +kernel
theorem dX10_init_67 : decode cX10_init 67 = .ok (.iastore, 1) := by decide +kernel
theorem dX10_init_68 : decode cX10_init 68 = .ok (.aload_n 0, 1) := by decide +kernel
theorem dX10_init_69 : decode cX10_init 69 = .ok (.getfield 7, 3) := by decide +kernel
theorem dX10_init_72 : decode cX10_init 72 = .ok (.iconst 3, 1) := by decide +kernel
theorem dX10_init_73 : decode cX10_init 73 = .ok (.iconst 3, 1) := by decide +kernel
theorem dX10_init_74 : decode cX10_init 74 = .ok (.iastore, 1) := by decide +kernel
theorem dX10_init_75 : decode cX10_init 75 = .ok (.aload_n 0, 1) := by decide +kernel
theorem dX10_init_76 : decode cX10_init 76 = .ok (.getfield 7, 3) := by decide +kernel
theorem dX10_init_79 : decode cX10_init 79 = .ok (.iconst 4, 1) := by decide +kernel
theorem dX10_init_80 : decode cX10_init 80 = .ok (.bipush 30, 2) := by decide +kernel
theorem dX10_init_82 : decode cX10_init 82 = .ok (.iastore, 1) := by decide +kernel
theorem dX10_init_83 : decode cX10_init 83 = .ok (.aload_n 0, 1) := by decide +kernel
theorem dX10_init_84 : decode cX10_init 84 = .ok (.getfield 7, 3) := by decide +kernel
theorem dX10_init_87 : decode cX10_init 87 = .ok (.bipush 20, 2) := by decide +kernel
theorem dX10_init_89 : decode cX10_init 89 = .ok (.iconst 1, 1) := by decide +kernel
theorem dX10_init_90 : decode cX10_init 90 = .ok (.iastore, 1) := by decide +kernel
theorem dX10_init_91 : decode cX10_init 91 = .ok (.return_, 1) := by decide +kernel
def kX10_init : Nat → WOp := cN 49 (cN 23 (cN 10 (cN 4 (cN 0 (cL 0 (o_aload 1 0)) (cN 1 (cL 1 (o_objinit 4)) (cL 4 (o_aload 5 0)))) (cN 5 (cL 5 (o_push 8 133)) (cN 8 (cL 8 (o_newa 10 0 133)) (cL 10 (o_putf 13 8 0 (.array .int)))))) (cN 17 (cN 13 (cL 13 (o_aload 14 0)) (cN 14 (cL 14 (o_push 17 532)) (cL 17 (o_newa 19 0 532)))) (cN 19 (cL 19 (o_putf 22 8 1 (.array .int))) (cN 22 (cL 22 (o_aload 23 0)) (cL 23 (o_push 26 133)))))) (cN 37 (cN 31 (cN 26 (cL 26 (o_newa 28 0 133)) (cN 28 (cL 28 (o_putf 31 8 2 (.array .int))) (cL 31 (o_aload 32 0)))) (cN 32 (cL 32 (o_push 35 150)) (cN 35 (cL 35 (o_newa 37 0 150)) (cL 37 (o_putf 40 8 5 (.array .int)))))) (cN 42 (cN 40 (cL 40 (o_aload 41 0)) (cN 41 (cL 41 (o_push 42 (-1))) (cL 42 (o_puti 45 8 8)))) (cN 46 (cN 45 (cL 45 (o_aload 46 0)) (cL 46 (o_push 47 3))) (cN 47 (cL 47 (o_newa 49 0 3)) (cL 49 (o_putf 52 8 12 (.array .int)))))))) (cN 72 (cN 60 (cN 56 (cN 52 (cL 52 (o_aload 53 0)) (cN 53 (cL 53 (o_getf 56 8 0)) (cL 56 (o_push 57 0)))) (cN 57 (cL 57 (o_push 59 12)) (cN 59 (cL 59 (o_iast 60)) (cL 60 (o_aload 61 0))))) (cN 65 (cN 61 (cL 61 (o_getf 64 8 0)) (cN 64 (cL 64 (o_push 65 1)) (cL 65 (o_push 67 6)))) (cN 68 (cN 67 (cL 67 (o_iast 68)) (cL 68 (o_aload 69 0))) (cN 69 (cL 69 (o_getf 72 8 0)) (cL 72 (o_push 73 3)))))) (cN 80 (cN 75 (cN 73 (cL 73 (o_push 74 3)) (cN 74 (cL 74 (o_iast 75)) (cL 75 (o_aload 76 0)))) (cN 76 (cL 76 (o_getf 79 8 0)) (cN 79 (cL 79 (o_push 80 4)) (cL 80 (o_push 82 30))))) (cN 84 (cN 82 (cL 82 (o_iast 83)) (cN 83 (cL 83 (o_aload 84 0)) (cL 84 (o_getf 87 8 0)))) (cN 89 (cN 87 (cL 87 (o_push 89 20)) (cL 89 (o_push 90 1))) (cN 90 (cL 90 (o_iast 91)) (cL 91 (o_vret)))))))
theorem sX10_init : ∀ pc, Snd tX10_init G1 pc (kX10_init pc) := s_N (s_N (s_N (s_N (s_N (s_L (s_aload_n dX10_init_0 rfl)) (s_N (s_L (s_objinit qw_971 qw_101 qw_102 (by decide) (by decide) dX10_init_1)) (s_L (s_aload_n dX10_init_4 rfl)))) (s_N (s_L (s_sipush dX10_init_5 (by decide +kernel))) (s_N (s_L (s_newa (t := 0) (N := 133) (ty := .int) rfl (by decide) (by decide) qw_141 dX10_init_8)) (s_L (s_putf ok_8 (k := 0) (by decide) rfl (Or.inr ⟨rfl, rfl, rfl⟩) dX10_init_10 qw_972))))) (s_N (s_N (s_L (s_aload_n dX10_init_13 rfl)) (s_N (s_L (s_sipush dX10_init_14 (by decide +kernel))) (s_L (s_newa (t := 0) (N := 532) (ty := .int) rfl (by decide) (by decide) qw_141 dX10_init_17)))) (s_N (s_L (s_putf ok_8 (k := 1) (by decide) rfl (Or.inr ⟨rfl, rfl, rfl⟩) dX10_init_19 qw_973)) (s_N (s_L (s_aload_n dX10_init_22 rfl)) (s_L (s_sipush dX10_init_23 (by decide +kernel))))))) (s_N (s_N (s_N (s_L (s_newa (t := 0) (N := 133) (ty := .int) rfl (by decide) (by decide) qw_141 dX10_init_26)) (s_N (s_L (s_putf ok_8 (k := 2) (by decide) rfl (Or.inr ⟨rfl, rfl, rfl⟩) dX10_init_28 qw_974)) (s_L (s_aload_n dX10_init_31 rfl)))) (s_N (s_L (s_sipush dX10_init_32 (by decide +kernel))) (s_N (s_L (s_newa (t := 0) (N := 150) (ty := .int) rfl (by decide) (by decide) qw_141 dX10_init_35)) (s_L (s_putf ok_8 (k := 5) (by decide) rfl (Or.inr ⟨rfl, rfl, rfl⟩) dX10_init_37 qw_977))))) (s_N (s_N (s_L (s_aload_n dX10_init_40 rfl)) (s_N (s_L (s_iconst dX10_init_41 (by decide +kernel))) (s_L (s_puti ok_8 (k := 8) (by decide) rfl (Or.inl rfl) dX10_init_42 qw_980)))) (s_N (s_N (s_L (s_aload_n dX10_init_45 rfl)) (s_L (s_iconst dX10_init_46 (by decide +kernel)))) (s_N (s_L (s_newa (t := 0) (N := 3) (ty := .int) rfl (by decide) (by decide) qw_141 dX10_init_47)) (s_L (s_putf ok_8 (k := 12) (by decide) rfl (Or.inr ⟨rfl, rfl, rfl⟩) dX10_init_49 qw_984))))))) (s_N (s_N (s_N (s_N (s_L (s_aload_n dX10_init_52 rfl)) (s_N (s_L (s_getf ok_8 (k := 0) (by decide) dX10_init_53 qw_972)) (s_L (s_iconst dX10_init_56 (by decide +kernel))))) (s_N (s_L (s_bipush dX10_init_57 (by decide +kernel))) (s_N (s_L (s_iast dX10_init_59)) (s_L (s_aload_n dX10_init_60 rfl))))) (s_N (s_N (s_L (s_getf ok_8 (k := 0) (by decide) dX10_init_61 qw_972)) (s_N (s_L (s_iconst dX10_init_64 (by decide +kernel))) (s_L (s_bipush dX10_init_65 (by decide +kernel))))) (s_N (s_N (s_L (s_iast dX10_init_67)) (s_L (s_aload_n dX10_init_68 rfl))) (s_N (s_L (s_getf ok_8 (k := 0) (by decide) dX10_init_69 qw_972)) (s_L (s_iconst dX10_init_72 (by decide +kernel))))))) (s_N (s_N (s_N (s_L (s_iconst dX10_init_73 (by decide +kernel))) (s_N (s_L (s_iast dX10_init_74)) (s_L (s_aload_n dX10_init_75 rfl)))) (s_N (s_L (s_getf ok_8 (k := 0) (by decide) dX10_init_76 qw_972)) (s_N (s_L (s_iconst dX10_init_79 (by decide +kernel))) (s_L (s_bipush dX10_init_80 (by decide +kernel)))))) (s_N (s_N (s_L (s_iast dX10_init_82)) (s_N (s_L (s_aload_n dX10_init_83 rfl)) (s_L (s_getf ok_8 (k := 0) (by decide) dX10_init_84 qw_972)))) (s_N (s_N (s_L (s_bipush dX10_init_87 (by decide +kernel))) (s_L (s_iconst dX10_init_89 (by decide +kernel)))) (s_N (s_L (s_iast dX10_init_90)) (s_L (s_vret rfl dX10_init_91)))))))
/-! PlateArmModel.thrown -/
theorem dX10_thrown_0 : decode cX10_thrown 0 = .ok (.aload_n 0, 1) := by decide +kernel
theorem dX10_thrown_1 : decode cX10_thrown 1 = .ok (.getfield 29, 3) := by decide +kernel
theorem dX10_thrown_4 : decode cX10_thrown 4 = .ok (.ireturn, 1) := by decide +kernel
def kX10_thrown : Nat → WOp := cN 0 (cL 0 (o_aload 1 0)) (cN 1 (cL 1 (o_getf 4 8 7)) (cL 4 (o_iret)))
theorem sX10_thrown : ∀ pc, Snd tX10_thrown G1 pc (kX10_thrown pc) := s_N (s_L (s_aload_n dX10_thrown_0 rfl)) (s_N (s_L (s_getf ok_8 (k := 7) (by decide) dX10_thrown_1 qw_979)) (s_L (s_iret rfl dX10_thrown_4)))
/-! PlateArmModel.in -/
theorem dX10_in_0 : decode cX10_in 0 = .ok (.iload_n 0, 1) := by decide +kernel
theorem dX10_in_1 : decode cX10_in 1 = .ok (.iload_n 1, 1) := by decide +kernel
theorem dX10_in_2 : decode cX10_in 2 = .ok (.if_icmp .lt 12, 3) := by decide +kernel
theorem dX10_in_5 : decode cX10_in 5 = .ok (.iload_n 0, 1) := by decide +kernel
theorem dX10_in_6 : decode cX10_in 6 = .ok (.iload_n 2, 1) := by decide +kernel
theorem dX10_in_7 : decode cX10_in 7 = .ok (.if_icmp .gt 7, 3) := by decide +kernel
theorem dX10_in_10 : decode cX10_in 10 = .ok (.iconst 1, 1) := by decide +kernel
theorem dX10_in_11 : decode cX10_in 11 = .ok (.goto 4, 3) := by decide +kernel
theorem dX10_in_14 : decode cX10_in 14 = .ok (.iconst 0, 1) := by decide +kernel
theorem dX10_in_15 : decode cX10_in 15 = .ok (.ireturn, 1) := by decide +kernel
def kX10_in : Nat → WOp := cN 6 (cN 1 (cN 0 (cL 0 (o_iload 1 0)) (cL 1 (o_iload 2 1))) (cN 2 (cL 2 (o_icmp_lt 14 5)) (cN 5 (cL 5 (o_iload 6 0)) (cL 6 (o_iload 7 2))))) (cN 10 (cN 7 (cL 7 (o_icmp_gt 14 10)) (cL 10 (o_push 11 1))) (cN 11 (cL 11 (o_goto 15)) (cN 14 (cL 14 (o_push 15 0)) (cL 15 (o_zret)))))
theorem sX10_in : ∀ pc, Snd tX10_in G1 pc (kX10_in pc) := s_N (s_N (s_N (s_L (s_iload_n dX10_in_0 rfl)) (s_L (s_iload_n dX10_in_1 rfl))) (s_N (s_L (s_o_icmp_lt dX10_in_2 (by decide))) (s_N (s_L (s_iload_n dX10_in_5 rfl)) (s_L (s_iload_n dX10_in_6 rfl))))) (s_N (s_N (s_L (s_o_icmp_gt dX10_in_7 (by decide))) (s_L (s_iconst dX10_in_10 (by decide +kernel)))) (s_N (s_L (s_o_goto dX10_in_11 (by decide))) (s_N (s_L (s_iconst dX10_in_14 (by decide +kernel))) (s_L (s_zret rfl dX10_in_15)))))
/-! PlateArmModel.throwsAt -/
theorem dX10_throwsAt_0 : decode cX10_throwsAt 0 = .ok (.aload_n 0, 1) := by decide +kernel
theorem dX10_throwsAt_1 : decode cX10_throwsAt 1 = .ok (.iload_n 1, 1) := by decide +kernel
theorem dX10_throwsAt_2 : decode cX10_throwsAt 2 = .ok (.putfield 29, 3) := by decide +kernel
theorem dX10_throwsAt_5 : decode cX10_throwsAt 5 = .ok (.iload_n 1, 1) := by decide +kernel
theorem dX10_throwsAt_6 : decode cX10_throwsAt 6 = .ok (.ifCond .le 7, 3) := by decide +kernel
theorem dX10_throwsAt_9 : decode cX10_throwsAt 9 = .ok (.iconst 1, 1) := by decide +kernel
theorem dX10_throwsAt_10 : decode cX10_throwsAt 10 = .ok (.goto 4, 3) := by decide +kernel
theorem dX10_throwsAt_13 : decode cX10_throwsAt 13 = .ok (.iconst 0, 1) := by decide +kernel
theorem dX10_throwsAt_14 : decode cX10_throwsAt 14 = .ok (.ireturn, 1) := by decide +kernel
def kX10_throwsAt : Nat → WOp := cN 5 (cN 1 (cN 0 (cL 0 (o_aload 1 0)) (cL 1 (o_iload 2 1))) (cN 2 (cL 2 (o_puti 5 8 7)) (cL 5 (o_iload 6 1)))) (cN 9 (cN 6 (cL 6 (o_if_le 13 9)) (cL 9 (o_push 10 1))) (cN 10 (cL 10 (o_goto 14)) (cN 13 (cL 13 (o_push 14 0)) (cL 14 (o_zret)))))
theorem sX10_throwsAt : ∀ pc, Snd tX10_throwsAt G1 pc (kX10_throwsAt pc) := s_N (s_N (s_N (s_L (s_aload_n dX10_throwsAt_0 rfl)) (s_L (s_iload_n dX10_throwsAt_1 rfl))) (s_N (s_L (s_puti ok_8 (k := 7) (by decide) rfl (Or.inl rfl) dX10_throwsAt_2 qw_979)) (s_L (s_iload_n dX10_throwsAt_5 rfl)))) (s_N (s_N (s_L (s_o_if_le dX10_throwsAt_6 (by decide))) (s_L (s_iconst dX10_throwsAt_9 (by decide +kernel)))) (s_N (s_L (s_o_goto dX10_throwsAt_10 (by decide))) (s_N (s_L (s_iconst dX10_throwsAt_13 (by decide +kernel))) (s_L (s_zret rfl dX10_throwsAt_14)))))
/-! PlateArmModel.saves -/
theorem dX10_saves_0 : decode cX10_saves 0 = .ok (.aload_n 0, 1) := by decide +kernel
theorem dX10_saves_1 : decode cX10_saves 1 = .ok (.getfield 32, 3) := by decide +kernel
theorem dX10_saves_4 : decode cX10_saves 4 = .ok (.ifCond .eq 4, 3) := by decide +kernel
theorem dX10_saves_7 : decode cX10_saves 7 = .ok (.return_, 1) := by decide +kernel
theorem dX10_saves_8 : decode cX10_saves 8 = .ok (.aload_n 0, 1) := by decide +kernel
theorem dX10_saves_9 : decode cX10_saves 9 = .ok (.getfield 36, 3) := by decide +kernel
theorem dX10_saves_12 : decode cX10_saves 12 = .ok (.iconst 4, 1) := by decide +kernel
theorem dX10_saves_13 : decode cX10_saves 13 = .ok (.if_icmp .ne 44, 3) := by decide +kernel
theorem dX10_saves_16 : decode cX10_saves 16 = .ok (.iconst 0, 1) := by decide +kernel
theorem dX10_saves_17 : decode cX10_saves 17 = .ok (.istore_n 1, 1) := by decide +kernel
theorem dX10_saves_18 : decode cX10_saves 18 = .ok (.iload_n 1, 1) := by decide +kernel
theorem dX10_saves_19 : decode cX10_saves 19 = .ok (.sipush 399, 3) := by decide +kernel
theorem dX10_saves_22 : decode cX10_saves 22 = .ok (.if_icmp .ge 25, 3) := by decide +kernel
theorem dX10_saves_25 : decode cX10_saves 25 = .ok (.aload_n 0, 1) := by decide +kernel
theorem dX10_saves_26 : decode cX10_saves 26 = .ok (.getfield 13, 3) := by decide +kernel
theorem dX10_saves_29 : decode cX10_saves 29 = .ok (.iload_n 1, 1) := by decide +kernel
theorem dX10_saves_30 : decode cX10_saves 30 = .ok (.aload_n 0, 1) := by decide +kernel
theorem dX10_saves_31 : decode cX10_saves 31 = .ok (.getfield 13, 3) := by decide +kernel
theorem dX10_saves_34 : decode cX10_saves 34 = .ok (.iload_n 1, 1) := by decide +kernel
theorem dX10_saves_35 : decode cX10_saves 35 = .ok (.sipush 133, 3) := by decide +kernel
theorem dX10_saves_38 : decode cX10_saves 38 = .ok (.iadd, 1) := by decide +kernel
theorem dX10_saves_39 : decode cX10_saves 39 = .ok (.iaload, 1) := by decide +kernel
theorem dX10_saves_40 : decode cX10_saves 40 = .ok (.iastore, 1) := by decide +kernel
theorem dX10_saves_41 : decode cX10_saves 41 = .ok (.iinc 1 1, 3) := by decide +kernel
theorem dX10_saves_44 : decode cX10_saves 44 = .ok (.goto (-26), 3) := by decide +kernel
theorem dX10_saves_47 : decode cX10_saves 47 = .ok (.aload_n 0, 1) := by decide +kernel
theorem dX10_saves_48 : decode cX10_saves 48 = .ok (.dup, 1) := by decide +kernel
theorem dX10_saves_49 : decode cX10_saves 49 = .ok (.getfield 36, 3) := by decide +kernel
theorem dX10_saves_52 : decode cX10_saves 52 = .ok (.iconst 1, 1) := by decide +kernel
theorem dX10_saves_53 : decode cX10_saves 53 = .ok (.isub, 1) := by decide +kernel
theorem dX10_saves_54 : decode cX10_saves 54 = .ok (.putfield 36, 3) := by decide +kernel
theorem dX10_saves_57 : decode cX10_saves 57 = .ok (.iconst 0, 1) := by decide +kernel
theorem dX10_saves_58 : decode cX10_saves 58 = .ok (.istore_n 1, 1) := by decide +kernel
theorem dX10_saves_59 : decode cX10_saves 59 = .ok (.iload_n 1, 1) := by decide +kernel
theorem dX10_saves_60 : decode cX10_saves 60 = .ok (.sipush 133, 3) := by decide +kernel
theorem dX10_saves_63 : decode cX10_saves 63 = .ok (.if_icmp .ge 30, 3) := by decide +kernel
theorem dX10_saves_66 : decode cX10_saves 66 = .ok (.aload_n 0, 1) := by decide +kernel
theorem dX10_saves_67 : decode cX10_saves 67 = .ok (.getfield 13, 3) := by decide +kernel
theorem dX10_saves_70 : decode cX10_saves 70 = .ok (.sipush 133, 3) := by decide +kernel
theorem dX10_saves_73 : decode cX10_saves 73 = .ok (.aload_n 0, 1) := by decide +kernel
theorem dX10_saves_74 : decode cX10_saves 74 = .ok (.getfield 36, 3) := by decide +kernel
theorem dX10_saves_77 : decode cX10_saves 77 = .ok (.imul, 1) := by decide +kernel
theorem dX10_saves_78 : decode cX10_saves 78 = .ok (.iload_n 1, 1) := by decide +kernel
theorem dX10_saves_79 : decode cX10_saves 79 = .ok (.iadd, 1) := by decide +kernel
theorem dX10_saves_80 : decode cX10_saves 80 = .ok (.aload_n 0, 1) := by decide +kernel
theorem dX10_saves_81 : decode cX10_saves 81 = .ok (.getfield 7, 3) := by decide +kernel
theorem dX10_saves_84 : decode cX10_saves 84 = .ok (.iload_n 1, 1) := by decide +kernel
theorem dX10_saves_85 : decode cX10_saves 85 = .ok (.iaload, 1) := by decide +kernel
theorem dX10_saves_86 : decode cX10_saves 86 = .ok (.iastore, 1) := by decide +kernel
theorem dX10_saves_87 : decode cX10_saves 87 = .ok (.iinc 1 1, 3) := by decide +kernel
theorem dX10_saves_90 : decode cX10_saves 90 = .ok (.goto (-31), 3) := by decide +kernel
theorem dX10_saves_93 : decode cX10_saves 93 = .ok (.aload_n 0, 1) := by decide +kernel
theorem dX10_saves_94 : decode cX10_saves 94 = .ok (.dup, 1) := by decide +kernel
theorem dX10_saves_95 : decode cX10_saves 95 = .ok (.getfield 36, 3) := by decide +kernel
theorem dX10_saves_98 : decode cX10_saves 98 = .ok (.iconst 1, 1) := by decide +kernel
theorem dX10_saves_99 : decode cX10_saves 99 = .ok (.iadd, 1) := by decide +kernel
theorem dX10_saves_100 : decode cX10_saves 100 = .ok (.putfield 36, 3) := by decide +kernel
theorem dX10_saves_103 : decode cX10_saves 103 = .ok (.return_, 1) := by decide +kernel
def kX10_saves : Nat → WOp := cN 52 (cN 25 (cN 12 (cN 4 (cN 0 (cL 0 (o_aload 1 0)) (cN 1 (cL 1 (o_getf 4 8 4)) (cL 4 (o_if_eq 8 7)))) (cN 8 (cN 7 (cL 7 (o_vret)) (cL 8 (o_aload 9 0))) (cN 9 (cL 9 (o_getf 12 8 3)) (cL 12 (o_push 13 4))))) (cN 17 (cN 13 (cL 13 (o_icmp_ne 57 16)) (cN 16 (cL 16 (o_push 17 0)) (cL 17 (o_istore 18 1)))) (cN 19 (cN 18 (cL 18 (o_iload 19 1)) (cL 19 (o_push 22 399))) (cN 22 (cL 22 (o_icmp_ge 47 25)) (cL 25 (o_aload 26 0)))))) (cN 38 (cN 30 (cN 26 (cL 26 (o_getf 29 8 1)) (cN 29 (cL 29 (o_iload 30 1)) (cL 30 (o_aload 31 0)))) (cN 34 (cN 31 (cL 31 (o_getf 34 8 1)) (cL 34 (o_iload 35 1))) (cN 35 (cL 35 (o_push 38 133)) (cL 38 (o_iadd 39))))) (cN 44 (cN 40 (cN 39 (cL 39 (o_iald 40)) (cL 40 (o_iast 41))) (cN 41 (cL 41 (o_iinc 44 1 1)) (cL 44 (o_goto 18)))) (cN 48 (cN 47 (cL 47 (o_aload 48 0)) (cL 48 (o_dup 49))) (cN 49 (cL 49 (o_getf 52 8 3)) (cL 52 (o_push 53 1))))))) (cN 78 (cN 63 (cN 57 (cN 53 (cL 53 (o_isub 54)) (cN 54 (cL 54 (o_puti 57 8 3)) (cL 57 (o_push 58 0)))) (cN 59 (cN 58 (cL 58 (o_istore 59 1)) (cL 59 (o_iload 60 1))) (cN 60 (cL 60 (o_push 63 133)) (cL 63 (o_icmp_ge 93 66))))) (cN 70 (cN 66 (cL 66 (o_aload 67 0)) (cN 67 (cL 67 (o_getf 70 8 1)) (cL 70 (o_push 73 133)))) (cN 74 (cN 73 (cL 73 (o_aload 74 0)) (cL 74 (o_getf 77 8 3))) (cN 77 (cL 77 (o_imul 78)) (cL 78 (o_iload 79 1)))))) (cN 87 (cN 81 (cN 79 (cL 79 (o_iadd 80)) (cN 80 (cL 80 (o_aload 81 0)) (cL 81 (o_getf 84 8 0)))) (cN 85 (cN 84 (cL 84 (o_iload 85 1)) (cL 85 (o_iald 86))) (cN 86 (cL 86 (o_iast 87)) (cL 87 (o_iinc 90 1 1))))) (cN 95 (cN 93 (cN 90 (cL 90 (o_goto 59)) (cL 93 (o_aload 94 0))) (cN 94 (cL 94 (o_dup 95)) (cL 95 (o_getf 98 8 3)))) (cN 99 (cN 98 (cL 98 (o_push 99 1)) (cL 99 (o_iadd 100))) (cN 100 (cL 100 (o_puti 103 8 3)) (cL 103 (o_vret)))))))
theorem sX10_saves : ∀ pc, Snd tX10_saves G1 pc (kX10_saves pc) := s_N (s_N (s_N (s_N (s_N (s_L (s_aload_n dX10_saves_0 rfl)) (s_N (s_L (s_getf ok_8 (k := 4) (by decide) dX10_saves_1 qw_976)) (s_L (s_o_if_eq dX10_saves_4 (by decide))))) (s_N (s_N (s_L (s_vret rfl dX10_saves_7)) (s_L (s_aload_n dX10_saves_8 rfl))) (s_N (s_L (s_getf ok_8 (k := 3) (by decide) dX10_saves_9 qw_975)) (s_L (s_iconst dX10_saves_12 (by decide +kernel)))))) (s_N (s_N (s_L (s_o_icmp_ne dX10_saves_13 (by decide))) (s_N (s_L (s_iconst dX10_saves_16 (by decide +kernel))) (s_L (s_istore_n dX10_saves_17 rfl (by decide))))) (s_N (s_N (s_L (s_iload_n dX10_saves_18 rfl)) (s_L (s_sipush dX10_saves_19 (by decide +kernel)))) (s_N (s_L (s_o_icmp_ge dX10_saves_22 (by decide))) (s_L (s_aload_n dX10_saves_25 rfl)))))) (s_N (s_N (s_N (s_L (s_getf ok_8 (k := 1) (by decide) dX10_saves_26 qw_973)) (s_N (s_L (s_iload_n dX10_saves_29 rfl)) (s_L (s_aload_n dX10_saves_30 rfl)))) (s_N (s_N (s_L (s_getf ok_8 (k := 1) (by decide) dX10_saves_31 qw_973)) (s_L (s_iload_n dX10_saves_34 rfl))) (s_N (s_L (s_sipush dX10_saves_35 (by decide +kernel))) (s_L (s_o_iadd dX10_saves_38))))) (s_N (s_N (s_N (s_L (s_iald dX10_saves_39)) (s_L (s_iast dX10_saves_40))) (s_N (s_L (s_iinc (v := 1) dX10_saves_41 (by decide +kernel) (by decide))) (s_L (s_o_goto dX10_saves_44 (by decide))))) (s_N (s_N (s_L (s_aload_n dX10_saves_47 rfl)) (s_L (s_o_dup dX10_saves_48))) (s_N (s_L (s_getf ok_8 (k := 3) (by decide) dX10_saves_49 qw_975)) (s_L (s_iconst dX10_saves_52 (by decide +kernel)))))))) (s_N (s_N (s_N (s_N (s_L (s_o_isub dX10_saves_53)) (s_N (s_L (s_puti ok_8 (k := 3) (by decide) rfl (Or.inl rfl) dX10_saves_54 qw_975)) (s_L (s_iconst dX10_saves_57 (by decide +kernel))))) (s_N (s_N (s_L (s_istore_n dX10_saves_58 rfl (by decide))) (s_L (s_iload_n dX10_saves_59 rfl))) (s_N (s_L (s_sipush dX10_saves_60 (by decide +kernel))) (s_L (s_o_icmp_ge dX10_saves_63 (by decide)))))) (s_N (s_N (s_L (s_aload_n dX10_saves_66 rfl)) (s_N (s_L (s_getf ok_8 (k := 1) (by decide) dX10_saves_67 qw_973)) (s_L (s_sipush dX10_saves_70 (by decide +kernel))))) (s_N (s_N (s_L (s_aload_n dX10_saves_73 rfl)) (s_L (s_getf ok_8 (k := 3) (by decide) dX10_saves_74 qw_975))) (s_N (s_L (s_o_imul dX10_saves_77)) (s_L (s_iload_n dX10_saves_78 rfl)))))) (s_N (s_N (s_N (s_L (s_o_iadd dX10_saves_79)) (s_N (s_L (s_aload_n dX10_saves_80 rfl)) (s_L (s_getf ok_8 (k := 0) (by decide) dX10_saves_81 qw_972)))) (s_N (s_N (s_L (s_iload_n dX10_saves_84 rfl)) (s_L (s_iald dX10_saves_85))) (s_N (s_L (s_iast dX10_saves_86)) (s_L (s_iinc (v := 1) dX10_saves_87 (by decide +kernel) (by decide)))))) (s_N (s_N (s_N (s_L (s_o_goto dX10_saves_90 (by decide))) (s_L (s_aload_n dX10_saves_93 rfl))) (s_N (s_L (s_o_dup dX10_saves_94)) (s_L (s_getf ok_8 (k := 3) (by decide) dX10_saves_95 qw_975)))) (s_N (s_N (s_L (s_iconst dX10_saves_98 (by decide +kernel))) (s_L (s_o_iadd dX10_saves_99))) (s_N (s_L (s_puti ok_8 (k := 3) (by decide) rfl (Or.inl rfl) dX10_saves_100 qw_975)) (s_L (s_vret rfl dX10_saves_103)))))))
/-! PlateArmModel.holds -/
theorem dX10_holds_0 : decode cX10_holds 0 = .ok (.iconst 0, 1) := by decide +kernel
theorem dX10_holds_1 : decode cX10_holds 1 = .ok (.istore_n 1, 1) := by decide +kernel
theorem dX10_holds_2 : decode cX10_holds 2 = .ok (.iload_n 1, 1) := by decide +kernel
theorem dX10_holds_3 : decode cX10_holds 3 = .ok (.sipush 133, 3) := by decide +kernel
theorem dX10_holds_6 : decode cX10_holds 6 = .ok (.if_icmp .ge 21, 3) := by decide +kernel
theorem dX10_holds_9 : decode cX10_holds 9 = .ok (.aload_n 0, 1) := by decide +kernel
theorem dX10_holds_10 : decode cX10_holds 10 = .ok (.getfield 16, 3) := by decide +kernel
theorem dX10_holds_13 : decode cX10_holds 13 = .ok (.iload_n 1, 1) := by decide +kernel
theorem dX10_holds_14 : decode cX10_holds 14 = .ok (.aload_n 0, 1) := by decide +kernel
theorem dX10_holds_15 : decode cX10_holds 15 = .ok (.getfield 7, 3) := by decide +kernel
theorem dX10_holds_18 : decode cX10_holds 18 = .ok (.iload_n 1, 1) := by decide +kernel
theorem dX10_holds_19 : decode cX10_holds 19 = .ok (.iaload, 1) := by decide +kernel
theorem dX10_holds_20 : decode cX10_holds 20 = .ok (.iastore, 1) := by decide +kernel
theorem dX10_holds_21 : decode cX10_holds 21 = .ok (.iinc 1 1, 3) := by decide +kernel
theorem dX10_holds_24 : decode cX10_holds 24 = .ok (.goto (-22), 3) := by decide +kernel
theorem dX10_holds_27 : decode cX10_holds 27 = .ok (.return_, 1) := by decide +kernel
def kX10_holds : Nat → WOp := cN 13 (cN 3 (cN 1 (cN 0 (cL 0 (o_push 1 0)) (cL 1 (o_istore 2 1))) (cN 2 (cL 2 (o_iload 3 1)) (cL 3 (o_push 6 133)))) (cN 9 (cN 6 (cL 6 (o_icmp_ge 27 9)) (cL 9 (o_aload 10 0))) (cN 10 (cL 10 (o_getf 13 8 2)) (cL 13 (o_iload 14 1))))) (cN 19 (cN 15 (cN 14 (cL 14 (o_aload 15 0)) (cL 15 (o_getf 18 8 0))) (cN 18 (cL 18 (o_iload 19 1)) (cL 19 (o_iald 20)))) (cN 21 (cN 20 (cL 20 (o_iast 21)) (cL 21 (o_iinc 24 1 1))) (cN 24 (cL 24 (o_goto 2)) (cL 27 (o_vret)))))
theorem sX10_holds : ∀ pc, Snd tX10_holds G1 pc (kX10_holds pc) := s_N (s_N (s_N (s_N (s_L (s_iconst dX10_holds_0 (by decide +kernel))) (s_L (s_istore_n dX10_holds_1 rfl (by decide)))) (s_N (s_L (s_iload_n dX10_holds_2 rfl)) (s_L (s_sipush dX10_holds_3 (by decide +kernel))))) (s_N (s_N (s_L (s_o_icmp_ge dX10_holds_6 (by decide))) (s_L (s_aload_n dX10_holds_9 rfl))) (s_N (s_L (s_getf ok_8 (k := 2) (by decide) dX10_holds_10 qw_974)) (s_L (s_iload_n dX10_holds_13 rfl))))) (s_N (s_N (s_N (s_L (s_aload_n dX10_holds_14 rfl)) (s_L (s_getf ok_8 (k := 0) (by decide) dX10_holds_15 qw_972))) (s_N (s_L (s_iload_n dX10_holds_18 rfl)) (s_L (s_iald dX10_holds_19)))) (s_N (s_N (s_L (s_iast dX10_holds_20)) (s_L (s_iinc (v := 1) dX10_holds_21 (by decide +kernel) (by decide)))) (s_N (s_L (s_o_goto dX10_holds_24 (by decide))) (s_L (s_vret rfl dX10_holds_27)))))
/-! PlateArmModel.lets -/
theorem dX10_lets_0 : decode cX10_lets 0 = .ok (.iconst 0, 1) := by decide +kernel
theorem dX10_lets_1 : decode cX10_lets 1 = .ok (.istore_n 1, 1) := by decide +kernel
theorem dX10_lets_2 : decode cX10_lets 2 = .ok (.iload_n 1, 1) := by decide +kernel
theorem dX10_lets_3 : decode cX10_lets 3 = .ok (.sipush 133, 3) := by decide +kernel
theorem dX10_lets_6 : decode cX10_lets 6 = .ok (.if_icmp .ge 21, 3) := by decide +kernel
theorem dX10_lets_9 : decode cX10_lets 9 = .ok (.aload_n 0, 1) := by decide +kernel
theorem dX10_lets_10 : decode cX10_lets 10 = .ok (.getfield 7, 3) := by decide +kernel
theorem dX10_lets_13 : decode cX10_lets 13 = .ok (.iload_n 1, 1) := by decide +kernel
theorem dX10_lets_14 : decode cX10_lets 14 = .ok (.aload_n 0, 1) := by decide +kernel
theorem dX10_lets_15 : decode cX10_lets 15 = .ok (.getfield 16, 3) := by decide +kernel
theorem dX10_lets_18 : decode cX10_lets 18 = .ok (.iload_n 1, 1) := by decide +kernel
theorem dX10_lets_19 : decode cX10_lets 19 = .ok (.iaload, 1) := by decide +kernel
theorem dX10_lets_20 : decode cX10_lets 20 = .ok (.iastore, 1) := by decide +kernel
theorem dX10_lets_21 : decode cX10_lets 21 = .ok (.iinc 1 1, 3) := by decide +kernel
theorem dX10_lets_24 : decode cX10_lets 24 = .ok (.goto (-22), 3) := by decide +kernel
theorem dX10_lets_27 : decode cX10_lets 27 = .ok (.return_, 1) := by decide +kernel
def kX10_lets : Nat → WOp := cN 13 (cN 3 (cN 1 (cN 0 (cL 0 (o_push 1 0)) (cL 1 (o_istore 2 1))) (cN 2 (cL 2 (o_iload 3 1)) (cL 3 (o_push 6 133)))) (cN 9 (cN 6 (cL 6 (o_icmp_ge 27 9)) (cL 9 (o_aload 10 0))) (cN 10 (cL 10 (o_getf 13 8 0)) (cL 13 (o_iload 14 1))))) (cN 19 (cN 15 (cN 14 (cL 14 (o_aload 15 0)) (cL 15 (o_getf 18 8 2))) (cN 18 (cL 18 (o_iload 19 1)) (cL 19 (o_iald 20)))) (cN 21 (cN 20 (cL 20 (o_iast 21)) (cL 21 (o_iinc 24 1 1))) (cN 24 (cL 24 (o_goto 2)) (cL 27 (o_vret)))))
theorem sX10_lets : ∀ pc, Snd tX10_lets G1 pc (kX10_lets pc) := s_N (s_N (s_N (s_N (s_L (s_iconst dX10_lets_0 (by decide +kernel))) (s_L (s_istore_n dX10_lets_1 rfl (by decide)))) (s_N (s_L (s_iload_n dX10_lets_2 rfl)) (s_L (s_sipush dX10_lets_3 (by decide +kernel))))) (s_N (s_N (s_L (s_o_icmp_ge dX10_lets_6 (by decide))) (s_L (s_aload_n dX10_lets_9 rfl))) (s_N (s_L (s_getf ok_8 (k := 0) (by decide) dX10_lets_10 qw_972)) (s_L (s_iload_n dX10_lets_13 rfl))))) (s_N (s_N (s_N (s_L (s_aload_n dX10_lets_14 rfl)) (s_L (s_getf ok_8 (k := 2) (by decide) dX10_lets_15 qw_974))) (s_N (s_L (s_iload_n dX10_lets_18 rfl)) (s_L (s_iald dX10_lets_19)))) (s_N (s_N (s_L (s_iast dX10_lets_20)) (s_L (s_iinc (v := 1) dX10_lets_21 (by decide +kernel) (by decide)))) (s_N (s_L (s_o_goto dX10_lets_24 (by decide))) (s_L (s_vret rfl dX10_lets_27)))))
/-! PlateArmModel.of -/
theorem dX10_of_0 : decode cX10_of 0 = .ok (.aload_n 0, 1) := by decide +kernel
theorem dX10_of_1 : decode cX10_of 1 = .ok (.getfield 7, 3) := by decide +kernel
theorem dX10_of_4 : decode cX10_of 4 = .ok (.bipush 23, 2) := by decide +kernel
theorem dX10_of_6 : decode cX10_of 6 = .ok (.iconst 5, 1) := by decide +kernel
theorem dX10_of_7 : decode cX10_of 7 = .ok (.iload_n 1, 1) := by decide +kernel
theorem dX10_of_8 : decode cX10_of 8 = .ok (.imul, 1) := by decide +kernel
theorem dX10_of_9 : decode cX10_of 9 = .ok (.iadd, 1) := by decide +kernel
theorem dX10_of_10 : decode cX10_of 10 = .ok (.iload_n 2, 1) := by decide +kernel
theorem dX10_of_11 : decode cX10_of 11 = .ok (.iadd, 1) := by decide +kernel
theorem dX10_of_12 : decode cX10_of 12 = .ok (.iaload, 1) := by decide +kernel
theorem dX10_of_13 : decode cX10_of 13 = .ok (.ireturn, 1) := by decide +kernel
def kX10_of : Nat → WOp := cN 7 (cN 1 (cN 0 (cL 0 (o_aload 1 0)) (cL 1 (o_getf 4 8 0))) (cN 4 (cL 4 (o_push 6 23)) (cN 6 (cL 6 (o_push 7 5)) (cL 7 (o_iload 8 1))))) (cN 10 (cN 8 (cL 8 (o_imul 9)) (cN 9 (cL 9 (o_iadd 10)) (cL 10 (o_iload 11 2)))) (cN 11 (cL 11 (o_iadd 12)) (cN 12 (cL 12 (o_iald 13)) (cL 13 (o_iret)))))
theorem sX10_of : ∀ pc, Snd tX10_of G1 pc (kX10_of pc) := s_N (s_N (s_N (s_L (s_aload_n dX10_of_0 rfl)) (s_L (s_getf ok_8 (k := 0) (by decide) dX10_of_1 qw_972))) (s_N (s_L (s_bipush dX10_of_4 (by decide +kernel))) (s_N (s_L (s_iconst dX10_of_6 (by decide +kernel))) (s_L (s_iload_n dX10_of_7 rfl))))) (s_N (s_N (s_L (s_o_imul dX10_of_8)) (s_N (s_L (s_o_iadd dX10_of_9)) (s_L (s_iload_n dX10_of_10 rfl)))) (s_N (s_L (s_o_iadd dX10_of_11)) (s_N (s_L (s_iald dX10_of_12)) (s_L (s_iret rfl dX10_of_13)))))
/-! PlateArmModel.placeOf -/
theorem dX10_placeOf_0 : decode cX10_placeOf 0 = .ok (.iconst (-1), 1) := by decide +kernel
theorem dX10_placeOf_1 : decode cX10_placeOf 1 = .ok (.istore_n 2, 1) := by decide +kernel
theorem dX10_placeOf_2 : decode cX10_placeOf 2 = .ok (.iconst 0, 1) := by decide +kernel
theorem dX10_placeOf_3 : decode cX10_placeOf 3 = .ok (.istore_n 3, 1) := by decide +kernel
theorem dX10_placeOf_4 : decode cX10_placeOf 4 = .ok (.iload_n 3, 1) := by decide +kernel
theorem dX10_placeOf_5 : decode cX10_placeOf 5 = .ok (.aload_n 0, 1) := by decide +kernel
theorem dX10_placeOf_6 : decode cX10_placeOf 6 = .ok (.getfield 7, 3) := by decide +kernel
theorem dX10_placeOf_9 : decode cX10_placeOf 9 = .ok (.bipush 21, 2) := by decide +kernel
theorem dX10_placeOf_11 : decode cX10_placeOf 11 = .ok (.iaload, 1) := by decide +kernel
theorem dX10_placeOf_12 : decode cX10_placeOf 12 = .ok (.if_icmp .ge 25, 3) := by decide +kernel
theorem dX10_placeOf_15 : decode cX10_placeOf 15 = .ok (.aload_n 0, 1) := by decide +kernel
theorem dX10_placeOf_16 : decode cX10_placeOf 16 = .ok (.iload_n 3, 1) := by decide +kernel
theorem dX10_placeOf_17 : decode cX10_placeOf 17 = .ok (.iconst 0, 1) := by decide +kernel
theorem dX10_placeOf_18 : decode cX10_placeOf 18 = .ok (.invokevirtual 39, 3) := by decide +kernel
theorem dX10_placeOf_21 : decode cX10_placeOf 21 = .ok (.iload_n 1, 1) := by decide +kernel
theorem dX10_placeOf_22 : decode cX10_placeOf 22 = .ok (.if_icmp .ne 7, 3) := by decide +kernel
theorem dX10_placeOf_25 : decode cX10_placeOf 25 = .ok (.iload_n 3, 1) := by decide +kernel
theorem dX10_placeOf_26 : decode cX10_placeOf 26 = .ok (.goto 4, 3) := by decide +kernel
theorem dX10_placeOf_29 : decode cX10_placeOf 29 = .ok (.iload_n 2, 1) := by decide +kernel
theorem dX10_placeOf_30 : decode cX10_placeOf 30 = .ok (.istore_n 2, 1) := by decide +kernel
theorem dX10_placeOf_31 : decode cX10_placeOf 31 = .ok (.iinc 3 1, 3) := by decide +kernel
theorem dX10_placeOf_34 : decode cX10_placeOf 34 = .ok (.goto (-30), 3) := by decide +kernel
theorem dX10_placeOf_37 : decode cX10_placeOf 37 = .ok (.iload_n 2, 1) := by decide +kernel
theorem dX10_placeOf_38 : decode cX10_placeOf 38 = .ok (.ireturn, 1) := by decide +kernel
theorem cc_X10_placeOf_X10_of : CallC tX10_placeOf tX10_of 2 := ⟨by decide +kernel, by decide +kernel, by decide +kernel, by decide, by decide, qw_80, qw_1049⟩
def kX10_placeOf : Nat → WOp := cN 16 (cN 5 (cN 2 (cN 0 (cL 0 (o_push 1 (-1))) (cN 1 (cL 1 (o_istore 2 2)) (cL 2 (o_push 3 0)))) (cN 3 (cL 3 (o_istore 4 3)) (cN 4 (cL 4 (o_iload 5 3)) (cL 5 (o_aload 6 0))))) (cN 11 (cN 6 (cL 6 (o_getf 9 8 0)) (cN 9 (cL 9 (o_push 11 21)) (cL 11 (o_iald 12)))) (cN 12 (cL 12 (o_icmp_ge 37 15)) (cN 15 (cL 15 (o_aload 16 0)) (cL 16 (o_iload 17 3)))))) (cN 26 (cN 21 (cN 17 (cL 17 (o_push 18 0)) (cN 18 (cL 18 (o_callV 21 8 2 tX10_of 0 0)) (cL 21 (o_iload 22 1)))) (cN 22 (cL 22 (o_icmp_ne 29 25)) (cN 25 (cL 25 (o_iload 26 3)) (cL 26 (o_goto 30))))) (cN 31 (cN 29 (cL 29 (o_iload 30 2)) (cN 30 (cL 30 (o_istore 31 2)) (cL 31 (o_iinc 34 3 1)))) (cN 34 (cL 34 (o_goto 4)) (cN 37 (cL 37 (o_iload 38 2)) (cL 38 (o_iret))))))
theorem sX10_placeOf : ∀ pc, Snd tX10_placeOf G1 pc (kX10_placeOf pc) := s_N (s_N (s_N (s_N (s_L (s_iconst dX10_placeOf_0 (by decide +kernel))) (s_N (s_L (s_istore_n dX10_placeOf_1 rfl (by decide))) (s_L (s_iconst dX10_placeOf_2 (by decide +kernel))))) (s_N (s_L (s_istore_n dX10_placeOf_3 rfl (by decide))) (s_N (s_L (s_iload_n dX10_placeOf_4 rfl)) (s_L (s_aload_n dX10_placeOf_5 rfl))))) (s_N (s_N (s_L (s_getf ok_8 (k := 0) (by decide) dX10_placeOf_6 qw_972)) (s_N (s_L (s_bipush dX10_placeOf_9 (by decide +kernel))) (s_L (s_iald dX10_placeOf_11)))) (s_N (s_L (s_o_icmp_ge dX10_placeOf_12 (by decide))) (s_N (s_L (s_aload_n dX10_placeOf_15 rfl)) (s_L (s_iload_n dX10_placeOf_16 rfl)))))) (s_N (s_N (s_N (s_L (s_iconst dX10_placeOf_17 (by decide +kernel))) (s_N (s_L (s_callV (d' := tX10_of) (mc := 0) (ms := 0) ok_8 cc_X10_placeOf_X10_of qw_1046 qw_1048 qw_34 dX10_placeOf_18)) (s_L (s_iload_n dX10_placeOf_21 rfl)))) (s_N (s_L (s_o_icmp_ne dX10_placeOf_22 (by decide))) (s_N (s_L (s_iload_n dX10_placeOf_25 rfl)) (s_L (s_o_goto dX10_placeOf_26 (by decide)))))) (s_N (s_N (s_L (s_iload_n dX10_placeOf_29 rfl)) (s_N (s_L (s_istore_n dX10_placeOf_30 rfl (by decide))) (s_L (s_iinc (v := 1) dX10_placeOf_31 (by decide +kernel) (by decide))))) (s_N (s_L (s_o_goto dX10_placeOf_34 (by decide))) (s_N (s_L (s_iload_n dX10_placeOf_37 rfl)) (s_L (s_iret rfl dX10_placeOf_38))))))
/-! PlateArmModel.takes -/
theorem dX10_takes_0 : decode cX10_takes 0 = .ok (.aload_n 0, 1) := by decide +kernel
theorem dX10_takes_1 : decode cX10_takes 1 = .ok (.getfield 7, 3) := by decide +kernel
theorem dX10_takes_4 : decode cX10_takes 4 = .ok (.bipush 21, 2) := by decide +kernel
theorem dX10_takes_6 : decode cX10_takes 6 = .ok (.dup2, 1) := by decide +kernel
theorem dX10_takes_7 : decode cX10_takes 7 = .ok (.iaload, 1) := by decide +kernel
theorem dX10_takes_8 : decode cX10_takes 8 = .ok (.iconst 1, 1) := by decide +kernel
theorem dX10_takes_9 : decode cX10_takes 9 = .ok (.isub, 1) := by decide +kernel
theorem dX10_takes_10 : decode cX10_takes 10 = .ok (.iastore, 1) := by decide +kernel
theorem dX10_takes_11 : decode cX10_takes 11 = .ok (.bipush 23, 2) := by decide +kernel
theorem dX10_takes_13 : decode cX10_takes 13 = .ok (.iconst 5, 1) := by decide +kernel
theorem dX10_takes_14 : decode cX10_takes 14 = .ok (.iload_n 1, 1) := by decide +kernel
theorem dX10_takes_15 : decode cX10_takes 15 = .ok (.imul, 1) := by decide +kernel
theorem dX10_takes_16 : decode cX10_takes 16 = .ok (.iadd, 1) := by decide +kernel
theorem dX10_takes_17 : decode cX10_takes 17 = .ok (.istore_n 2, 1) := by decide +kernel
theorem dX10_takes_18 : decode cX10_takes 18 = .ok (.iload_n 2, 1) := by decide +kernel
theorem dX10_takes_19 : decode cX10_takes 19 = .ok (.bipush 23, 2) := by decide +kernel
theorem dX10_takes_21 : decode cX10_takes 21 = .ok (.iconst 5, 1) := by decide +kernel
theorem dX10_takes_22 : decode cX10_takes 22 = .ok (.aload_n 0, 1) := by decide +kernel
theorem dX10_takes_23 : decode cX10_takes 23 = .ok (.getfield 7, 3) := by decide +kernel
theorem dX10_takes_26 : decode cX10_takes 26 = .ok (.bipush 21, 2) := by decide +kernel
theorem dX10_takes_28 : decode cX10_takes 28 = .ok (.iaload, 1) := by decide +kernel
theorem dX10_takes_29 : decode cX10_takes 29 = .ok (.imul, 1) := by decide +kernel
theorem dX10_takes_30 : decode cX10_takes 30 = .ok (.iadd, 1) := by decide +kernel
theorem dX10_takes_31 : decode cX10_takes 31 = .ok (.if_icmp .ge 23, 3) := by decide +kernel
theorem dX10_takes_34 : decode cX10_takes 34 = .ok (.aload_n 0, 1) := by decide +kernel
theorem dX10_takes_35 : decode cX10_takes 35 = .ok (.getfield 7, 3) := by decide +kernel
theorem dX10_takes_38 : decode cX10_takes 38 = .ok (.iload_n 2, 1) := by decide +kernel
theorem dX10_takes_39 : decode cX10_takes 39 = .ok (.aload_n 0, 1) := by decide +kernel
theorem dX10_takes_40 : decode cX10_takes 40 = .ok (.getfield 7, 3) := by decide +kernel
theorem dX10_takes_43 : decode cX10_takes 43 = .ok (.iload_n 2, 1) := by decide +kernel
theorem dX10_takes_44 : decode cX10_takes 44 = .ok (.iconst 5, 1) := by decide +kernel
theorem dX10_takes_45 : decode cX10_takes 45 = .ok (.iadd, 1) := by decide +kernel
theorem dX10_takes_46 : decode cX10_takes 46 = .ok (.iaload, 1) := by decide +kernel
theorem dX10_takes_47 : decode cX10_takes 47 = .ok (.iastore, 1) := by decide +kernel
theorem dX10_takes_48 : decode cX10_takes 48 = .ok (.iinc 2 1, 3) := by decide +kernel
theorem dX10_takes_51 : decode cX10_takes 51 = .ok (.goto (-33), 3) := by decide +kernel
theorem dX10_takes_54 : decode cX10_takes 54 = .ok (.return_, 1) := by decide +kernel
def kX10_takes : Nat → WOp := cN 22 (cN 11 (cN 6 (cN 1 (cN 0 (cL 0 (o_aload 1 0)) (cL 1 (o_getf 4 8 0))) (cN 4 (cL 4 (o_push 6 21)) (cL 6 (o_dup2 7)))) (cN 8 (cN 7 (cL 7 (o_iald 8)) (cL 8 (o_push 9 1))) (cN 9 (cL 9 (o_isub 10)) (cN 10 (cL 10 (o_iast 11)) (cL 11 (o_push 13 23)))))) (cN 16 (cN 14 (cN 13 (cL 13 (o_push 14 5)) (cL 14 (o_iload 15 1))) (cN 15 (cL 15 (o_imul 16)) (cL 16 (o_iadd 17)))) (cN 18 (cN 17 (cL 17 (o_istore 18 2)) (cL 18 (o_iload 19 2))) (cN 19 (cL 19 (o_push 21 23)) (cN 21 (cL 21 (o_push 22 5)) (cL 22 (o_aload 23 0))))))) (cN 38 (cN 29 (cN 26 (cN 23 (cL 23 (o_getf 26 8 0)) (cL 26 (o_push 28 21))) (cN 28 (cL 28 (o_iald 29)) (cL 29 (o_imul 30)))) (cN 31 (cN 30 (cL 30 (o_iadd 31)) (cL 31 (o_icmp_ge 54 34))) (cN 34 (cL 34 (o_aload 35 0)) (cN 35 (cL 35 (o_getf 38 8 0)) (cL 38 (o_iload 39 2)))))) (cN 45 (cN 40 (cN 39 (cL 39 (o_aload 40 0)) (cL 40 (o_getf 43 8 0))) (cN 43 (cL 43 (o_iload 44 2)) (cN 44 (cL 44 (o_push 45 5)) (cL 45 (o_iadd 46))))) (cN 47 (cN 46 (cL 46 (o_iald 47)) (cL 47 (o_iast 48))) (cN 48 (cL 48 (o_iinc 51 2 1)) (cN 51 (cL 51 (o_goto 18)) (cL 54 (o_vret)))))))
theorem sX10_takes : ∀ pc, Snd tX10_takes G1 pc (kX10_takes pc) := s_N (s_N (s_N (s_N (s_N (s_L (s_aload_n dX10_takes_0 rfl)) (s_L (s_getf ok_8 (k := 0) (by decide) dX10_takes_1 qw_972))) (s_N (s_L (s_bipush dX10_takes_4 (by decide +kernel))) (s_L (s_o_dup2 dX10_takes_6)))) (s_N (s_N (s_L (s_iald dX10_takes_7)) (s_L (s_iconst dX10_takes_8 (by decide +kernel)))) (s_N (s_L (s_o_isub dX10_takes_9)) (s_N (s_L (s_iast dX10_takes_10)) (s_L (s_bipush dX10_takes_11 (by decide +kernel))))))) (s_N (s_N (s_N (s_L (s_iconst dX10_takes_13 (by decide +kernel))) (s_L (s_iload_n dX10_takes_14 rfl))) (s_N (s_L (s_o_imul dX10_takes_15)) (s_L (s_o_iadd dX10_takes_16)))) (s_N (s_N (s_L (s_istore_n dX10_takes_17 rfl (by decide))) (s_L (s_iload_n dX10_takes_18 rfl))) (s_N (s_L (s_bipush dX10_takes_19 (by decide +kernel))) (s_N (s_L (s_iconst dX10_takes_21 (by decide +kernel))) (s_L (s_aload_n dX10_takes_22 rfl))))))) (s_N (s_N (s_N (s_N (s_L (s_getf ok_8 (k := 0) (by decide) dX10_takes_23 qw_972)) (s_L (s_bipush dX10_takes_26 (by decide +kernel)))) (s_N (s_L (s_iald dX10_takes_28)) (s_L (s_o_imul dX10_takes_29)))) (s_N (s_N (s_L (s_o_iadd dX10_takes_30)) (s_L (s_o_icmp_ge dX10_takes_31 (by decide)))) (s_N (s_L (s_aload_n dX10_takes_34 rfl)) (s_N (s_L (s_getf ok_8 (k := 0) (by decide) dX10_takes_35 qw_972)) (s_L (s_iload_n dX10_takes_38 rfl)))))) (s_N (s_N (s_N (s_L (s_aload_n dX10_takes_39 rfl)) (s_L (s_getf ok_8 (k := 0) (by decide) dX10_takes_40 qw_972))) (s_N (s_L (s_iload_n dX10_takes_43 rfl)) (s_N (s_L (s_iconst dX10_takes_44 (by decide +kernel))) (s_L (s_o_iadd dX10_takes_45))))) (s_N (s_N (s_L (s_iald dX10_takes_46)) (s_L (s_iast dX10_takes_47))) (s_N (s_L (s_iinc (v := 1) dX10_takes_48 (by decide +kernel) (by decide))) (s_N (s_L (s_o_goto dX10_takes_51 (by decide))) (s_L (s_vret rfl dX10_takes_54)))))))
/-! PlateArmModel.size -/
theorem dX10_size_0 : decode cX10_size 0 = .ok (.iload_n 0, 1) := by decide +kernel
theorem dX10_size_1 : decode cX10_size 1 = .ok (.ifCond .ge 8, 3) := by decide +kernel
theorem dX10_size_4 : decode cX10_size 4 = .ok (.iload_n 0, 1) := by decide +kernel
theorem dX10_size_5 : decode cX10_size 5 = .ok (.ineg, 1) := by decide +kernel
theorem dX10_size_6 : decode cX10_size 6 = .ok (.goto 4, 3) := by decide +kernel
theorem dX10_size_9 : decode cX10_size 9 = .ok (.iload_n 0, 1) := by decide +kernel
theorem dX10_size_10 : decode cX10_size 10 = .ok (.ireturn, 1) := by decide +kernel
def kX10_size : Nat → WOp := cN 4 (cN 0 (cL 0 (o_iload 1 0)) (cN 1 (cL 1 (o_if_ge 9 4)) (cL 4 (o_iload 5 0)))) (cN 6 (cN 5 (cL 5 (o_ineg 6)) (cL 6 (o_goto 10))) (cN 9 (cL 9 (o_iload 10 0)) (cL 10 (o_iret))))
theorem sX10_size : ∀ pc, Snd tX10_size G1 pc (kX10_size pc) := s_N (s_N (s_L (s_iload_n dX10_size_0 rfl)) (s_N (s_L (s_o_if_ge dX10_size_1 (by decide))) (s_L (s_iload_n dX10_size_4 rfl)))) (s_N (s_N (s_L (s_o_ineg dX10_size_5)) (s_L (s_o_goto dX10_size_6 (by decide)))) (s_N (s_L (s_iload_n dX10_size_9 rfl)) (s_L (s_iret rfl dX10_size_10))))
/-! PlateArmModel.far -/
theorem dX10_far_0 : decode cX10_far 0 = .ok (.aload_n 0, 1) := by decide +kernel
theorem dX10_far_1 : decode cX10_far 1 = .ok (.iload_n 1, 1) := by decide +kernel
theorem dX10_far_2 : decode cX10_far 2 = .ok (.iconst 1, 1) := by decide +kernel
theorem dX10_far_3 : decode cX10_far 3 = .ok (.invokevirtual 39, 3) := by decide +kernel
theorem dX10_far_6 : decode cX10_far 6 = .ok (.aload_n 0, 1) := by decide +kernel
theorem dX10_far_7 : decode cX10_far 7 = .ok (.getfield 7, 3) := by decide +kernel
theorem dX10_far_10 : decode cX10_far 10 = .ok (.bipush 16, 2) := by decide +kernel
theorem dX10_far_12 : decode cX10_far 12 = .ok (.iaload, 1) := by decide +kernel
theorem dX10_far_13 : decode cX10_far 13 = .ok (.isub, 1) := by decide +kernel
theorem dX10_far_14 : decode cX10_far 14 = .ok (.invokestatic 43, 3) := by decide +kernel
theorem dX10_far_17 : decode cX10_far 17 = .ok (.ireturn, 1) := by decide +kernel
theorem cc_X10_far_X10_of : CallC tX10_far tX10_of 2 := ⟨by decide +kernel, by decide +kernel, by decide +kernel, by decide, by decide, qw_80, qw_1049⟩
theorem cc_X10_far_X10_size : CallC tX10_far tX10_size 1 := ⟨by decide +kernel, by decide +kernel, by decide +kernel, by decide, by decide, qw_80, qw_1088⟩
def kX10_far : Nat → WOp := cN 6 (cN 1 (cN 0 (cL 0 (o_aload 1 0)) (cL 1 (o_iload 2 1))) (cN 2 (cL 2 (o_push 3 1)) (cN 3 (cL 3 (o_callV 6 8 2 tX10_of 0 0)) (cL 6 (o_aload 7 0))))) (cN 12 (cN 7 (cL 7 (o_getf 10 8 0)) (cN 10 (cL 10 (o_push 12 16)) (cL 12 (o_iald 13)))) (cN 13 (cL 13 (o_isub 14)) (cN 14 (cL 14 (o_callS 17 1 tX10_size 0 0)) (cL 17 (o_iret)))))
theorem sX10_far : ∀ pc, Snd tX10_far G1 pc (kX10_far pc) := s_N (s_N (s_N (s_L (s_aload_n dX10_far_0 rfl)) (s_L (s_iload_n dX10_far_1 rfl))) (s_N (s_L (s_iconst dX10_far_2 (by decide +kernel))) (s_N (s_L (s_callV (d' := tX10_of) (mc := 0) (ms := 0) ok_8 cc_X10_far_X10_of qw_1046 qw_1048 qw_34 dX10_far_3)) (s_L (s_aload_n dX10_far_6 rfl))))) (s_N (s_N (s_L (s_getf ok_8 (k := 0) (by decide) dX10_far_7 qw_972)) (s_N (s_L (s_bipush dX10_far_10 (by decide +kernel))) (s_L (s_iald dX10_far_12)))) (s_N (s_L (s_o_isub dX10_far_13)) (s_N (s_L (s_callS (d' := tX10_size) (mc := 0) (ms := 0) cc_X10_far_X10_size qw_1086 qw_1087 dX10_far_14)) (s_L (s_iret rfl dX10_far_17)))))
/-! PlateArmModel.isAhead -/
theorem dX10_isAhead_0 : decode cX10_isAhead 0 = .ok (.iload_n 2, 1) := by decide +kernel
theorem dX10_isAhead_1 : decode cX10_isAhead 1 = .ok (.iconst 1, 1) := by decide +kernel
theorem dX10_isAhead_2 : decode cX10_isAhead 2 = .ok (.if_icmp .ne 27, 3) := by decide +kernel
theorem dX10_isAhead_5 : decode cX10_isAhead 5 = .ok (.aload_n 0, 1) := by decide +kernel
theorem dX10_isAhead_6 : decode cX10_isAhead 6 = .ok (.iload_n 1, 1) := by decide +kernel
theorem dX10_isAhead_7 : decode cX10_isAhead 7 = .ok (.iconst 1, 1) := by decide +kernel
theorem dX10_isAhead_8 : decode cX10_isAhead 8 = .ok (.invokevirtual 39, 3) := by decide +kernel
theorem dX10_isAhead_11 : decode cX10_isAhead 11 = .ok (.aload_n 0, 1) := by decide +kernel
theorem dX10_isAhead_12 : decode cX10_isAhead 12 = .ok (.getfield 7, 3) := by decide +kernel
theorem dX10_isAhead_15 : decode cX10_isAhead 15 = .ok (.bipush 16, 2) := by decide +kernel
theorem dX10_isAhead_17 : decode cX10_isAhead 17 = .ok (.iaload, 1) := by decide +kernel
theorem dX10_isAhead_18 : decode cX10_isAhead 18 = .ok (.if_icmp .lt 7, 3) := by decide +kernel
theorem dX10_isAhead_21 : decode cX10_isAhead 21 = .ok (.iconst 1, 1) := by decide +kernel
theorem dX10_isAhead_22 : decode cX10_isAhead 22 = .ok (.goto 28, 3) := by decide +kernel
theorem dX10_isAhead_25 : decode cX10_isAhead 25 = .ok (.iconst 0, 1) := by decide +kernel
theorem dX10_isAhead_26 : decode cX10_isAhead 26 = .ok (.goto 24, 3) := by decide +kernel
theorem dX10_isAhead_29 : decode cX10_isAhead 29 = .ok (.aload_n 0, 1) := by decide +kernel
theorem dX10_isAhead_30 : decode cX10_isAhead 30 = .ok (.iload_n 1, 1) := by decide +kernel
theorem dX10_isAhead_31 : decode cX10_isAhead 31 = .ok (.iconst 1, 1) := by decide +kernel
theorem dX10_isAhead_32 : decode cX10_isAhead 32 = .ok (.invokevirtual 39, 3) := by decide +kernel
theorem dX10_isAhead_35 : decode cX10_isAhead 35 = .ok (.aload_n 0, 1) := by decide +kernel
theorem dX10_isAhead_36 : decode cX10_isAhead 36 = .ok (.getfield 7, 3) := by decide +kernel
theorem dX10_isAhead_39 : decode cX10_isAhead 39 = .ok (.bipush 16, 2) := by decide +kernel
theorem dX10_isAhead_41 : decode cX10_isAhead 41 = .ok (.iaload, 1) := by decide +kernel
theorem dX10_isAhead_42 : decode cX10_isAhead 42 = .ok (.if_icmp .gt 7, 3) := by decide +kernel
theorem dX10_isAhead_45 : decode cX10_isAhead 45 = .ok (.iconst 1, 1) := by decide +kernel
theorem dX10_isAhead_46 : decode cX10_isAhead 46 = .ok (.goto 4, 3) := by decide +kernel
theorem dX10_isAhead_49 : decode cX10_isAhead 49 = .ok (.iconst 0, 1) := by decide +kernel
theorem dX10_isAhead_50 : decode cX10_isAhead 50 = .ok (.ireturn, 1) := by decide +kernel
theorem cc_X10_isAhead_X10_of : CallC tX10_isAhead tX10_of 2 := ⟨by decide +kernel, by decide +kernel, by decide +kernel, by decide, by decide, qw_80, qw_1049⟩
def kX10_isAhead : Nat → WOp := cN 22 (cN 8 (cN 2 (cN 0 (cL 0 (o_iload 1 2)) (cN 1 (cL 1 (o_push 2 1)) (cL 2 (o_icmp_ne 29 5)))) (cN 6 (cN 5 (cL 5 (o_aload 6 0)) (cL 6 (o_iload 7 1))) (cN 7 (cL 7 (o_push 8 1)) (cL 8 (o_callV 11 8 2 tX10_of 0 0))))) (cN 15 (cN 11 (cL 11 (o_aload 12 0)) (cN 12 (cL 12 (o_getf 15 8 0)) (cL 15 (o_push 17 16)))) (cN 18 (cN 17 (cL 17 (o_iald 18)) (cL 18 (o_icmp_lt 25 21))) (cN 21 (cL 21 (o_push 22 1)) (cL 22 (o_goto 50)))))) (cN 35 (cN 29 (cN 25 (cL 25 (o_push 26 0)) (cN 26 (cL 26 (o_goto 50)) (cL 29 (o_aload 30 0)))) (cN 31 (cN 30 (cL 30 (o_iload 31 1)) (cL 31 (o_push 32 1))) (cN 32 (cL 32 (o_callV 35 8 2 tX10_of 0 0)) (cL 35 (o_aload 36 0))))) (cN 42 (cN 39 (cN 36 (cL 36 (o_getf 39 8 0)) (cL 39 (o_push 41 16))) (cN 41 (cL 41 (o_iald 42)) (cL 42 (o_icmp_gt 49 45)))) (cN 46 (cN 45 (cL 45 (o_push 46 1)) (cL 46 (o_goto 50))) (cN 49 (cL 49 (o_push 50 0)) (cL 50 (o_zret))))))
theorem sX10_isAhead : ∀ pc, Snd tX10_isAhead G1 pc (kX10_isAhead pc) := s_N (s_N (s_N (s_N (s_L (s_iload_n dX10_isAhead_0 rfl)) (s_N (s_L (s_iconst dX10_isAhead_1 (by decide +kernel))) (s_L (s_o_icmp_ne dX10_isAhead_2 (by decide))))) (s_N (s_N (s_L (s_aload_n dX10_isAhead_5 rfl)) (s_L (s_iload_n dX10_isAhead_6 rfl))) (s_N (s_L (s_iconst dX10_isAhead_7 (by decide +kernel))) (s_L (s_callV (d' := tX10_of) (mc := 0) (ms := 0) ok_8 cc_X10_isAhead_X10_of qw_1046 qw_1048 qw_34 dX10_isAhead_8))))) (s_N (s_N (s_L (s_aload_n dX10_isAhead_11 rfl)) (s_N (s_L (s_getf ok_8 (k := 0) (by decide) dX10_isAhead_12 qw_972)) (s_L (s_bipush dX10_isAhead_15 (by decide +kernel))))) (s_N (s_N (s_L (s_iald dX10_isAhead_17)) (s_L (s_o_icmp_lt dX10_isAhead_18 (by decide)))) (s_N (s_L (s_iconst dX10_isAhead_21 (by decide +kernel))) (s_L (s_o_goto dX10_isAhead_22 (by decide))))))) (s_N (s_N (s_N (s_L (s_iconst dX10_isAhead_25 (by decide +kernel))) (s_N (s_L (s_o_goto dX10_isAhead_26 (by decide))) (s_L (s_aload_n dX10_isAhead_29 rfl)))) (s_N (s_N (s_L (s_iload_n dX10_isAhead_30 rfl)) (s_L (s_iconst dX10_isAhead_31 (by decide +kernel)))) (s_N (s_L (s_callV (d' := tX10_of) (mc := 0) (ms := 0) ok_8 cc_X10_isAhead_X10_of qw_1046 qw_1048 qw_34 dX10_isAhead_32)) (s_L (s_aload_n dX10_isAhead_35 rfl))))) (s_N (s_N (s_N (s_L (s_getf ok_8 (k := 0) (by decide) dX10_isAhead_36 qw_972)) (s_L (s_bipush dX10_isAhead_39 (by decide +kernel)))) (s_N (s_L (s_iald dX10_isAhead_41)) (s_L (s_o_icmp_gt dX10_isAhead_42 (by decide))))) (s_N (s_N (s_L (s_iconst dX10_isAhead_45 (by decide +kernel))) (s_L (s_o_goto dX10_isAhead_46 (by decide)))) (s_N (s_L (s_iconst dX10_isAhead_49 (by decide +kernel))) (s_L (s_zret rfl dX10_isAhead_50))))))
/-! PlateArmModel.nearest -/
theorem dX10_nearest_0 : decode cX10_nearest 0 = .ok (.iconst (-1), 1) := by decide +kernel
theorem dX10_nearest_1 : decode cX10_nearest 1 = .ok (.istore_n 2, 1) := by decide +kernel
theorem dX10_nearest_2 : decode cX10_nearest 2 = .ok (.iconst 0, 1) := by decide +kernel
theorem dX10_nearest_3 : decode cX10_nearest 3 = .ok (.istore_n 3, 1) := by decide +kernel
theorem dX10_nearest_4 : decode cX10_nearest 4 = .ok (.iload_n 3, 1) := by decide +kernel
theorem dX10_nearest_5 : decode cX10_nearest 5 = .ok (.aload_n 0, 1) := by decide +kernel
theorem dX10_nearest_6 : decode cX10_nearest 6 = .ok (.getfield 7, 3) := by decide +kernel
theorem dX10_nearest_9 : decode cX10_nearest 9 = .ok (.bipush 21, 2) := by decide +kernel
theorem dX10_nearest_11 : decode cX10_nearest 11 = .ok (.iaload, 1) := by decide +kernel
theorem dX10_nearest_12 : decode cX10_nearest 12 = .ok (.if_icmp .ge 58, 3) := by decide +kernel
theorem dX10_nearest_15 : decode cX10_nearest 15 = .ok (.iload_n 1, 1) := by decide +kernel
theorem dX10_nearest_16 : decode cX10_nearest 16 = .ok (.ifCond .eq 12, 3) := by decide +kernel
theorem dX10_nearest_19 : decode cX10_nearest 19 = .ok (.aload_n 0, 1) := by decide +kernel
theorem dX10_nearest_20 : decode cX10_nearest 20 = .ok (.iload_n 3, 1) := by decide +kernel
theorem dX10_nearest_21 : decode cX10_nearest 21 = .ok (.iload_n 1, 1) := by decide +kernel
theorem dX10_nearest_22 : decode cX10_nearest 22 = .ok (.invokevirtual 47, 3) := by decide +kernel
theorem dX10_nearest_25 : decode cX10_nearest 25 = .ok (.ifCond .eq 7, 3) := by decide +kernel
theorem dX10_nearest_28 : decode cX10_nearest 28 = .ok (.iconst 1, 1) := by decide +kernel
theorem dX10_nearest_29 : decode cX10_nearest 29 = .ok (.goto 4, 3) := by decide +kernel
theorem dX10_nearest_32 : decode cX10_nearest 32 = .ok (.iconst 0, 1) := by decide +kernel
theorem dX10_nearest_33 : decode cX10_nearest 33 = .ok (.istore 4, 2) := by decide +kernel
theorem dX10_nearest_35 : decode cX10_nearest 35 = .ok (.iload 4, 2) := by decide +kernel
theorem dX10_nearest_37 : decode cX10_nearest 37 = .ok (.ifCond .eq 25, 3) := by decide +kernel
theorem dX10_nearest_40 : decode cX10_nearest 40 = .ok (.iload_n 2, 1) := by decide +kernel
theorem dX10_nearest_41 : decode cX10_nearest 41 = .ok (.iconst (-1), 1) := by decide +kernel
theorem dX10_nearest_42 : decode cX10_nearest 42 = .ok (.if_icmp .eq 16, 3) := by decide +kernel
theorem dX10_nearest_45 : decode cX10_nearest 45 = .ok (.aload_n 0, 1) := by decide +kernel
theorem dX10_nearest_46 : decode cX10_nearest 46 = .ok (.iload_n 3, 1) := by decide +kernel
theorem dX10_nearest_47 : decode cX10_nearest 47 = .ok (.invokevirtual 51, 3) := by decide +kernel
theorem dX10_nearest_50 : decode cX10_nearest 50 = .ok (.aload_n 0, 1) := by decide +kernel
theorem dX10_nearest_51 : decode cX10_nearest 51 = .ok (.iload_n 2, 1) := by decide +kernel
theorem dX10_nearest_52 : decode cX10_nearest 52 = .ok (.invokevirtual 51, 3) := by decide +kernel
theorem dX10_nearest_55 : decode cX10_nearest 55 = .ok (.if_icmp .ge 7, 3) := by decide +kernel
theorem dX10_nearest_58 : decode cX10_nearest 58 = .ok (.iload_n 3, 1) := by decide +kernel
theorem dX10_nearest_59 : decode cX10_nearest 59 = .ok (.goto 4, 3) := by decide +kernel
theorem dX10_nearest_62 : decode cX10_nearest 62 = .ok (.iload_n 2, 1) := by decide +kernel
theorem dX10_nearest_63 : decode cX10_nearest 63 = .ok (.istore_n 2, 1) := by decide +kernel
theorem dX10_nearest_64 : decode cX10_nearest 64 = .ok (.iinc 3 1, 3) := by decide +kernel
theorem dX10_nearest_67 : decode cX10_nearest 67 = .ok (.goto (-63), 3) := by decide +kernel
theorem dX10_nearest_70 : decode cX10_nearest 70 = .ok (.iload_n 2, 1) := by decide +kernel
theorem dX10_nearest_71 : decode cX10_nearest 71 = .ok (.ireturn, 1) := by decide +kernel
theorem cc_X10_nearest_X10_isAhead : CallC tX10_nearest tX10_isAhead 2 := ⟨by decide +kernel, by decide +kernel, by decide +kernel, by decide, by decide, qw_80, qw_1081⟩
theorem cc_X10_nearest_X10_far : CallC tX10_nearest tX10_far 1 := ⟨by decide +kernel, by decide +kernel, by decide +kernel, by decide, by decide, qw_80, qw_1085⟩
def kX10_nearest : Nat → WOp := cN 32 (cN 12 (cN 4 (cN 1 (cN 0 (cL 0 (o_push 1 (-1))) (cL 1 (o_istore 2 2))) (cN 2 (cL 2 (o_push 3 0)) (cN 3 (cL 3 (o_istore 4 3)) (cL 4 (o_iload 5 3))))) (cN 6 (cN 5 (cL 5 (o_aload 6 0)) (cL 6 (o_getf 9 8 0))) (cN 9 (cL 9 (o_push 11 21)) (cN 11 (cL 11 (o_iald 12)) (cL 12 (o_icmp_ge 70 15)))))) (cN 21 (cN 16 (cN 15 (cL 15 (o_iload 16 1)) (cL 16 (o_if_eq 28 19))) (cN 19 (cL 19 (o_aload 20 0)) (cN 20 (cL 20 (o_iload 21 3)) (cL 21 (o_iload 22 1))))) (cN 25 (cN 22 (cL 22 (o_callV 25 8 2 tX10_isAhead 0 0)) (cL 25 (o_if_eq 32 28))) (cN 28 (cL 28 (o_push 29 1)) (cN 29 (cL 29 (o_goto 33)) (cL 32 (o_push 33 0))))))) (cN 50 (cN 41 (cN 35 (cN 33 (cL 33 (o_istore 35 4)) (cL 35 (o_iload 37 4))) (cN 37 (cL 37 (o_if_eq 62 40)) (cN 40 (cL 40 (o_iload 41 2)) (cL 41 (o_push 42 (-1)))))) (cN 45 (cN 42 (cL 42 (o_icmp_eq 58 45)) (cL 45 (o_aload 46 0))) (cN 46 (cL 46 (o_iload 47 3)) (cN 47 (cL 47 (o_callV 50 8 1 tX10_far 0 0)) (cL 50 (o_aload 51 0)))))) (cN 59 (cN 52 (cN 51 (cL 51 (o_iload 52 2)) (cL 52 (o_callV 55 8 1 tX10_far 0 0))) (cN 55 (cL 55 (o_icmp_ge 62 58)) (cN 58 (cL 58 (o_iload 59 3)) (cL 59 (o_goto 63))))) (cN 64 (cN 62 (cL 62 (o_iload 63 2)) (cN 63 (cL 63 (o_istore 64 2)) (cL 64 (o_iinc 67 3 1)))) (cN 67 (cL 67 (o_goto 4)) (cN 70 (cL 70 (o_iload 71 2)) (cL 71 (o_iret)))))))
theorem sX10_nearest : ∀ pc, Snd tX10_nearest G1 pc (kX10_nearest pc) := s_N (s_N (s_N (s_N (s_N (s_L (s_iconst dX10_nearest_0 (by decide +kernel))) (s_L (s_istore_n dX10_nearest_1 rfl (by decide)))) (s_N (s_L (s_iconst dX10_nearest_2 (by decide +kernel))) (s_N (s_L (s_istore_n dX10_nearest_3 rfl (by decide))) (s_L (s_iload_n dX10_nearest_4 rfl))))) (s_N (s_N (s_L (s_aload_n dX10_nearest_5 rfl)) (s_L (s_getf ok_8 (k := 0) (by decide) dX10_nearest_6 qw_972))) (s_N (s_L (s_bipush dX10_nearest_9 (by decide +kernel))) (s_N (s_L (s_iald dX10_nearest_11)) (s_L (s_o_icmp_ge dX10_nearest_12 (by decide))))))) (s_N (s_N (s_N (s_L (s_iload_n dX10_nearest_15 rfl)) (s_L (s_o_if_eq dX10_nearest_16 (by decide)))) (s_N (s_L (s_aload_n dX10_nearest_19 rfl)) (s_N (s_L (s_iload_n dX10_nearest_20 rfl)) (s_L (s_iload_n dX10_nearest_21 rfl))))) (s_N (s_N (s_L (s_callV (d' := tX10_isAhead) (mc := 0) (ms := 0) ok_8 cc_X10_nearest_X10_isAhead qw_1078 qw_1080 qw_40 dX10_nearest_22)) (s_L (s_o_if_eq dX10_nearest_25 (by decide)))) (s_N (s_L (s_iconst dX10_nearest_28 (by decide +kernel))) (s_N (s_L (s_o_goto dX10_nearest_29 (by decide))) (s_L (s_iconst dX10_nearest_32 (by decide +kernel)))))))) (s_N (s_N (s_N (s_N (s_L (s_istore dX10_nearest_33 (by decide))) (s_L (s_iload dX10_nearest_35))) (s_N (s_L (s_o_if_eq dX10_nearest_37 (by decide))) (s_N (s_L (s_iload_n dX10_nearest_40 rfl)) (s_L (s_iconst dX10_nearest_41 (by decide +kernel)))))) (s_N (s_N (s_L (s_o_icmp_eq dX10_nearest_42 (by decide))) (s_L (s_aload_n dX10_nearest_45 rfl))) (s_N (s_L (s_iload_n dX10_nearest_46 rfl)) (s_N (s_L (s_callV (d' := tX10_far) (mc := 0) (ms := 0) ok_8 cc_X10_nearest_X10_far qw_1082 qw_1084 qw_41 dX10_nearest_47)) (s_L (s_aload_n dX10_nearest_50 rfl)))))) (s_N (s_N (s_N (s_L (s_iload_n dX10_nearest_51 rfl)) (s_L (s_callV (d' := tX10_far) (mc := 0) (ms := 0) ok_8 cc_X10_nearest_X10_far qw_1082 qw_1084 qw_41 dX10_nearest_52))) (s_N (s_L (s_o_icmp_ge dX10_nearest_55 (by decide))) (s_N (s_L (s_iload_n dX10_nearest_58 rfl)) (s_L (s_o_goto dX10_nearest_59 (by decide)))))) (s_N (s_N (s_L (s_iload_n dX10_nearest_62 rfl)) (s_N (s_L (s_istore_n dX10_nearest_63 rfl (by decide))) (s_L (s_iinc (v := 1) dX10_nearest_64 (by decide +kernel) (by decide))))) (s_N (s_L (s_o_goto dX10_nearest_67 (by decide))) (s_N (s_L (s_iload_n dX10_nearest_70 rfl)) (s_L (s_iret rfl dX10_nearest_71)))))))
/-! PlateArmModel.earliest -/
theorem dX10_earliest_0 : decode cX10_earliest 0 = .ok (.iconst (-1), 1) := by decide +kernel
theorem dX10_earliest_1 : decode cX10_earliest 1 = .ok (.istore_n 1, 1) := by decide +kernel
theorem dX10_earliest_2 : decode cX10_earliest 2 = .ok (.iconst 0, 1) := by decide +kernel
theorem dX10_earliest_3 : decode cX10_earliest 3 = .ok (.istore_n 2, 1) := by decide +kernel
theorem dX10_earliest_4 : decode cX10_earliest 4 = .ok (.iload_n 2, 1) := by decide +kernel
theorem dX10_earliest_5 : decode cX10_earliest 5 = .ok (.aload_n 0, 1) := by decide +kernel
theorem dX10_earliest_6 : decode cX10_earliest 6 = .ok (.getfield 7, 3) := by decide +kernel
theorem dX10_earliest_9 : decode cX10_earliest 9 = .ok (.bipush 21, 2) := by decide +kernel
theorem dX10_earliest_11 : decode cX10_earliest 11 = .ok (.iaload, 1) := by decide +kernel
theorem dX10_earliest_12 : decode cX10_earliest 12 = .ok (.if_icmp .ge 35, 3) := by decide +kernel
theorem dX10_earliest_15 : decode cX10_earliest 15 = .ok (.iload_n 1, 1) := by decide +kernel
theorem dX10_earliest_16 : decode cX10_earliest 16 = .ok (.iconst (-1), 1) := by decide +kernel
theorem dX10_earliest_17 : decode cX10_earliest 17 = .ok (.if_icmp .eq 18, 3) := by decide +kernel
theorem dX10_earliest_20 : decode cX10_earliest 20 = .ok (.aload_n 0, 1) := by decide +kernel
theorem dX10_earliest_21 : decode cX10_earliest 21 = .ok (.iload_n 2, 1) := by decide +kernel
theorem dX10_earliest_22 : decode cX10_earliest 22 = .ok (.iconst 3, 1) := by decide +kernel
theorem dX10_earliest_23 : decode cX10_earliest 23 = .ok (.invokevirtual 39, 3) := by decide +kernel
theorem dX10_earliest_26 : decode cX10_earliest 26 = .ok (.aload_n 0, 1) := by decide +kernel
theorem dX10_earliest_27 : decode cX10_earliest 27 = .ok (.iload_n 1, 1) := by decide +kernel
theorem dX10_earliest_28 : decode cX10_earliest 28 = .ok (.iconst 3, 1) := by decide +kernel
theorem dX10_earliest_29 : decode cX10_earliest 29 = .ok (.invokevirtual 39, 3) := by decide +kernel
theorem dX10_earliest_32 : decode cX10_earliest 32 = .ok (.if_icmp .ge 7, 3) := by decide +kernel
theorem dX10_earliest_35 : decode cX10_earliest 35 = .ok (.iload_n 2, 1) := by decide +kernel
theorem dX10_earliest_36 : decode cX10_earliest 36 = .ok (.goto 4, 3) := by decide +kernel
theorem dX10_earliest_39 : decode cX10_earliest 39 = .ok (.iload_n 1, 1) := by decide +kernel
theorem dX10_earliest_40 : decode cX10_earliest 40 = .ok (.istore_n 1, 1) := by decide +kernel
theorem dX10_earliest_41 : decode cX10_earliest 41 = .ok (.iinc 2 1, 3) := by decide +kernel
theorem dX10_earliest_44 : decode cX10_earliest 44 = .ok (.goto (-40), 3) := by decide +kernel
theorem dX10_earliest_47 : decode cX10_earliest 47 = .ok (.iload_n 1, 1) := by decide +kernel
theorem dX10_earliest_48 : decode cX10_earliest 48 = .ok (.ireturn, 1) := by decide +kernel
theorem cc_X10_earliest_X10_of : CallC tX10_earliest tX10_of 2 := ⟨by decide +kernel, by decide +kernel, by decide +kernel, by decide, by decide, qw_80, qw_1049⟩
def kX10_earliest : Nat → WOp := cN 21 (cN 6 (cN 2 (cN 0 (cL 0 (o_push 1 (-1))) (cN 1 (cL 1 (o_istore 2 1)) (cL 2 (o_push 3 0)))) (cN 4 (cN 3 (cL 3 (o_istore 4 2)) (cL 4 (o_iload 5 2))) (cN 5 (cL 5 (o_aload 6 0)) (cL 6 (o_getf 9 8 0))))) (cN 15 (cN 11 (cN 9 (cL 9 (o_push 11 21)) (cL 11 (o_iald 12))) (cN 12 (cL 12 (o_icmp_ge 47 15)) (cL 15 (o_iload 16 1)))) (cN 17 (cN 16 (cL 16 (o_push 17 (-1))) (cL 17 (o_icmp_eq 35 20))) (cN 20 (cL 20 (o_aload 21 0)) (cL 21 (o_iload 22 2)))))) (cN 32 (cN 26 (cN 22 (cL 22 (o_push 23 3)) (cN 23 (cL 23 (o_callV 26 8 2 tX10_of 0 0)) (cL 26 (o_aload 27 0)))) (cN 28 (cN 27 (cL 27 (o_iload 28 1)) (cL 28 (o_push 29 3))) (cN 29 (cL 29 (o_callV 32 8 2 tX10_of 0 0)) (cL 32 (o_icmp_ge 39 35))))) (cN 40 (cN 36 (cN 35 (cL 35 (o_iload 36 2)) (cL 36 (o_goto 40))) (cN 39 (cL 39 (o_iload 40 1)) (cL 40 (o_istore 41 1)))) (cN 44 (cN 41 (cL 41 (o_iinc 44 2 1)) (cL 44 (o_goto 4))) (cN 47 (cL 47 (o_iload 48 1)) (cL 48 (o_iret))))))
theorem sX10_earliest : ∀ pc, Snd tX10_earliest G1 pc (kX10_earliest pc) := s_N (s_N (s_N (s_N (s_L (s_iconst dX10_earliest_0 (by decide +kernel))) (s_N (s_L (s_istore_n dX10_earliest_1 rfl (by decide))) (s_L (s_iconst dX10_earliest_2 (by decide +kernel))))) (s_N (s_N (s_L (s_istore_n dX10_earliest_3 rfl (by decide))) (s_L (s_iload_n dX10_earliest_4 rfl))) (s_N (s_L (s_aload_n dX10_earliest_5 rfl)) (s_L (s_getf ok_8 (k := 0) (by decide) dX10_earliest_6 qw_972))))) (s_N (s_N (s_N (s_L (s_bipush dX10_earliest_9 (by decide +kernel))) (s_L (s_iald dX10_earliest_11))) (s_N (s_L (s_o_icmp_ge dX10_earliest_12 (by decide))) (s_L (s_iload_n dX10_earliest_15 rfl)))) (s_N (s_N (s_L (s_iconst dX10_earliest_16 (by decide +kernel))) (s_L (s_o_icmp_eq dX10_earliest_17 (by decide)))) (s_N (s_L (s_aload_n dX10_earliest_20 rfl)) (s_L (s_iload_n dX10_earliest_21 rfl)))))) (s_N (s_N (s_N (s_L (s_iconst dX10_earliest_22 (by decide +kernel))) (s_N (s_L (s_callV (d' := tX10_of) (mc := 0) (ms := 0) ok_8 cc_X10_earliest_X10_of qw_1046 qw_1048 qw_34 dX10_earliest_23)) (s_L (s_aload_n dX10_earliest_26 rfl)))) (s_N (s_N (s_L (s_iload_n dX10_earliest_27 rfl)) (s_L (s_iconst dX10_earliest_28 (by decide +kernel)))) (s_N (s_L (s_callV (d' := tX10_of) (mc := 0) (ms := 0) ok_8 cc_X10_earliest_X10_of qw_1046 qw_1048 qw_34 dX10_earliest_29)) (s_L (s_o_icmp_ge dX10_earliest_32 (by decide)))))) (s_N (s_N (s_N (s_L (s_iload_n dX10_earliest_35 rfl)) (s_L (s_o_goto dX10_earliest_36 (by decide)))) (s_N (s_L (s_iload_n dX10_earliest_39 rfl)) (s_L (s_istore_n dX10_earliest_40 rfl (by decide))))) (s_N (s_N (s_L (s_iinc (v := 1) dX10_earliest_41 (by decide +kernel) (by decide))) (s_L (s_o_goto dX10_earliest_44 (by decide)))) (s_N (s_L (s_iload_n dX10_earliest_47 rfl)) (s_L (s_iret rfl dX10_earliest_48))))))
/-! PlateArmModel.sweeping -/
theorem dX10_sweeping_0 : decode cX10_sweeping 0 = .ok (.aload_n 0, 1) := by decide +kernel
theorem dX10_sweeping_1 : decode cX10_sweeping 1 = .ok (.aload_n 0, 1) := by decide +kernel
theorem dX10_sweeping_2 : decode cX10_sweeping 2 = .ok (.getfield 7, 3) := by decide +kernel
theorem dX10_sweeping_5 : decode cX10_sweeping 5 = .ok (.bipush 20, 2) := by decide +kernel
theorem dX10_sweeping_7 : decode cX10_sweeping 7 = .ok (.iaload, 1) := by decide +kernel
theorem dX10_sweeping_8 : decode cX10_sweeping 8 = .ok (.invokevirtual 54, 3) := by decide +kernel
theorem dX10_sweeping_11 : decode cX10_sweeping 11 = .ok (.istore_n 1, 1) := by decide +kernel
theorem dX10_sweeping_12 : decode cX10_sweeping 12 = .ok (.iload_n 1, 1) := by decide +kernel
theorem dX10_sweeping_13 : decode cX10_sweeping 13 = .ok (.iconst (-1), 1) := by decide +kernel
theorem dX10_sweeping_14 : decode cX10_sweeping 14 = .ok (.if_icmp .ne 19, 3) := by decide +kernel
theorem dX10_sweeping_17 : decode cX10_sweeping 17 = .ok (.aload_n 0, 1) := by decide +kernel
theorem dX10_sweeping_18 : decode cX10_sweeping 18 = .ok (.iconst 3, 1) := by decide +kernel
theorem dX10_sweeping_19 : decode cX10_sweeping 19 = .ok (.aload_n 0, 1) := by decide +kernel
theorem dX10_sweeping_20 : decode cX10_sweeping 20 = .ok (.getfield 7, 3) := by decide +kernel
theorem dX10_sweeping_23 : decode cX10_sweeping 23 = .ok (.bipush 20, 2) := by decide +kernel
theorem dX10_sweeping_25 : decode cX10_sweeping 25 = .ok (.iaload, 1) := by decide +kernel
theorem dX10_sweeping_26 : decode cX10_sweeping 26 = .ok (.isub, 1) := by decide +kernel
theorem dX10_sweeping_27 : decode cX10_sweeping 27 = .ok (.invokevirtual 54, 3) := by decide +kernel
theorem dX10_sweeping_30 : decode cX10_sweeping 30 = .ok (.goto 4, 3) := by decide +kernel
theorem dX10_sweeping_33 : decode cX10_sweeping 33 = .ok (.iload_n 1, 1) := by decide +kernel
theorem dX10_sweeping_34 : decode cX10_sweeping 34 = .ok (.ireturn, 1) := by decide +kernel
theorem cc_X10_sweeping_X10_nearest : CallC tX10_sweeping tX10_nearest 1 := ⟨by decide +kernel, by decide +kernel, by decide +kernel, by decide, by decide, qw_80, qw_1077⟩
def kX10_sweeping : Nat → WOp := cN 14 (cN 7 (cN 1 (cN 0 (cL 0 (o_aload 1 0)) (cL 1 (o_aload 2 0))) (cN 2 (cL 2 (o_getf 5 8 0)) (cN 5 (cL 5 (o_push 7 20)) (cL 7 (o_iald 8))))) (cN 11 (cN 8 (cL 8 (o_callV 11 8 1 tX10_nearest 0 0)) (cL 11 (o_istore 12 1))) (cN 12 (cL 12 (o_iload 13 1)) (cN 13 (cL 13 (o_push 14 (-1))) (cL 14 (o_icmp_ne 33 17)))))) (cN 23 (cN 18 (cN 17 (cL 17 (o_aload 18 0)) (cL 18 (o_push 19 3))) (cN 19 (cL 19 (o_aload 20 0)) (cN 20 (cL 20 (o_getf 23 8 0)) (cL 23 (o_push 25 20))))) (cN 27 (cN 25 (cL 25 (o_iald 26)) (cN 26 (cL 26 (o_isub 27)) (cL 27 (o_callV 30 8 1 tX10_nearest 0 0)))) (cN 30 (cL 30 (o_goto 34)) (cN 33 (cL 33 (o_iload 34 1)) (cL 34 (o_iret))))))
theorem sX10_sweeping : ∀ pc, Snd tX10_sweeping G1 pc (kX10_sweeping pc) := s_N (s_N (s_N (s_N (s_L (s_aload_n dX10_sweeping_0 rfl)) (s_L (s_aload_n dX10_sweeping_1 rfl))) (s_N (s_L (s_getf ok_8 (k := 0) (by decide) dX10_sweeping_2 qw_972)) (s_N (s_L (s_bipush dX10_sweeping_5 (by decide +kernel))) (s_L (s_iald dX10_sweeping_7))))) (s_N (s_N (s_L (s_callV (d' := tX10_nearest) (mc := 0) (ms := 0) ok_8 cc_X10_sweeping_X10_nearest qw_1074 qw_1076 qw_39 dX10_sweeping_8)) (s_L (s_istore_n dX10_sweeping_11 rfl (by decide)))) (s_N (s_L (s_iload_n dX10_sweeping_12 rfl)) (s_N (s_L (s_iconst dX10_sweeping_13 (by decide +kernel))) (s_L (s_o_icmp_ne dX10_sweeping_14 (by decide))))))) (s_N (s_N (s_N (s_L (s_aload_n dX10_sweeping_17 rfl)) (s_L (s_iconst dX10_sweeping_18 (by decide +kernel)))) (s_N (s_L (s_aload_n dX10_sweeping_19 rfl)) (s_N (s_L (s_getf ok_8 (k := 0) (by decide) dX10_sweeping_20 qw_972)) (s_L (s_bipush dX10_sweeping_23 (by decide +kernel)))))) (s_N (s_N (s_L (s_iald dX10_sweeping_25)) (s_N (s_L (s_o_isub dX10_sweeping_26)) (s_L (s_callV (d' := tX10_nearest) (mc := 0) (ms := 0) ok_8 cc_X10_sweeping_X10_nearest qw_1074 qw_1076 qw_39 dX10_sweeping_27)))) (s_N (s_L (s_o_goto dX10_sweeping_30 (by decide))) (s_N (s_L (s_iload_n dX10_sweeping_33 rfl)) (s_L (s_iret rfl dX10_sweeping_34))))))
/-! PlateArmModel.targetBy -/
theorem dX10_targetBy_0 : decode cX10_targetBy 0 = .ok (.aload_n 0, 1) := by decide +kernel
theorem dX10_targetBy_1 : decode cX10_targetBy 1 = .ok (.getfield 7, 3) := by decide +kernel
theorem dX10_targetBy_4 : decode cX10_targetBy 4 = .ok (.bipush 21, 2) := by decide +kernel
theorem dX10_targetBy_6 : decode cX10_targetBy 6 = .ok (.iaload, 1) := by decide +kernel
theorem dX10_targetBy_7 : decode cX10_targetBy 7 = .ok (.ifCond .ne 7, 3) := by decide +kernel
theorem dX10_targetBy_10 : decode cX10_targetBy 10 = .ok (.iconst (-1), 1) := by decide +kernel
theorem dX10_targetBy_11 : decode cX10_targetBy 11 = .ok (.goto 40, 3) := by decide +kernel
theorem dX10_targetBy_14 : decode cX10_targetBy 14 = .ok (.iload_n 1, 1) := by decide +kernel
theorem dX10_targetBy_15 : decode cX10_targetBy 15 = .ok (.ifCond .ne 7, 3) := by decide +kernel
theorem dX10_targetBy_18 : decode cX10_targetBy 18 = .ok (.iconst 0, 1) := by decide +kernel
theorem dX10_targetBy_19 : decode cX10_targetBy 19 = .ok (.goto 32, 3) := by decide +kernel
theorem dX10_targetBy_22 : decode cX10_targetBy 22 = .ok (.iload_n 1, 1) := by decide +kernel
theorem dX10_targetBy_23 : decode cX10_targetBy 23 = .ok (.iconst 1, 1) := by decide +kernel
theorem dX10_targetBy_24 : decode cX10_targetBy 24 = .ok (.if_icmp .ne 10, 3) := by decide +kernel
theorem dX10_targetBy_27 : decode cX10_targetBy 27 = .ok (.aload_n 0, 1) := by decide +kernel
theorem dX10_targetBy_28 : decode cX10_targetBy 28 = .ok (.invokevirtual 57, 3) := by decide +kernel
theorem dX10_targetBy_31 : decode cX10_targetBy 31 = .ok (.goto 20, 3) := by decide +kernel
theorem dX10_targetBy_34 : decode cX10_targetBy 34 = .ok (.iload_n 1, 1) := by decide +kernel
theorem dX10_targetBy_35 : decode cX10_targetBy 35 = .ok (.iconst 2, 1) := by decide +kernel
theorem dX10_targetBy_36 : decode cX10_targetBy 36 = .ok (.if_icmp .ne 11, 3) := by decide +kernel
theorem dX10_targetBy_39 : decode cX10_targetBy 39 = .ok (.aload_n 0, 1) := by decide +kernel
theorem dX10_targetBy_40 : decode cX10_targetBy 40 = .ok (.iconst 0, 1) := by decide +kernel
theorem dX10_targetBy_41 : decode cX10_targetBy 41 = .ok (.invokevirtual 54, 3) := by decide +kernel
theorem dX10_targetBy_44 : decode cX10_targetBy 44 = .ok (.goto 7, 3) := by decide +kernel
theorem dX10_targetBy_47 : decode cX10_targetBy 47 = .ok (.aload_n 0, 1) := by decide +kernel
theorem dX10_targetBy_48 : decode cX10_targetBy 48 = .ok (.invokevirtual 61, 3) := by decide +kernel
theorem dX10_targetBy_51 : decode cX10_targetBy 51 = .ok (.ireturn, 1) := by decide +kernel
theorem cc_X10_targetBy_X10_sweeping : CallC tX10_targetBy tX10_sweeping 0 := ⟨by decide +kernel, by decide +kernel, by decide +kernel, by decide, by decide, qw_80, qw_1073⟩
theorem cc_X10_targetBy_X10_nearest : CallC tX10_targetBy tX10_nearest 1 := ⟨by decide +kernel, by decide +kernel, by decide +kernel, by decide, by decide, qw_80, qw_1077⟩
theorem cc_X10_targetBy_X10_earliest : CallC tX10_targetBy tX10_earliest 0 := ⟨by decide +kernel, by decide +kernel, by decide +kernel, by decide, by decide, qw_80, qw_1092⟩
def kX10_targetBy : Nat → WOp := cN 23 (cN 10 (cN 4 (cN 0 (cL 0 (o_aload 1 0)) (cN 1 (cL 1 (o_getf 4 8 0)) (cL 4 (o_push 6 21)))) (cN 6 (cL 6 (o_iald 7)) (cN 7 (cL 7 (o_if_ne 14 10)) (cL 10 (o_push 11 (-1)))))) (cN 15 (cN 11 (cL 11 (o_goto 51)) (cN 14 (cL 14 (o_iload 15 1)) (cL 15 (o_if_ne 22 18)))) (cN 19 (cN 18 (cL 18 (o_push 19 0)) (cL 19 (o_goto 51))) (cN 22 (cL 22 (o_iload 23 1)) (cL 23 (o_push 24 1)))))) (cN 36 (cN 28 (cN 24 (cL 24 (o_icmp_ne 34 27)) (cN 27 (cL 27 (o_aload 28 0)) (cL 28 (o_callV 31 8 0 tX10_sweeping 0 0)))) (cN 34 (cN 31 (cL 31 (o_goto 51)) (cL 34 (o_iload 35 1))) (cN 35 (cL 35 (o_push 36 2)) (cL 36 (o_icmp_ne 47 39))))) (cN 41 (cN 39 (cL 39 (o_aload 40 0)) (cN 40 (cL 40 (o_push 41 0)) (cL 41 (o_callV 44 8 1 tX10_nearest 0 0)))) (cN 47 (cN 44 (cL 44 (o_goto 51)) (cL 47 (o_aload 48 0))) (cN 48 (cL 48 (o_callV 51 8 0 tX10_earliest 0 0)) (cL 51 (o_iret))))))
theorem sX10_targetBy : ∀ pc, Snd tX10_targetBy G1 pc (kX10_targetBy pc) := s_N (s_N (s_N (s_N (s_L (s_aload_n dX10_targetBy_0 rfl)) (s_N (s_L (s_getf ok_8 (k := 0) (by decide) dX10_targetBy_1 qw_972)) (s_L (s_bipush dX10_targetBy_4 (by decide +kernel))))) (s_N (s_L (s_iald dX10_targetBy_6)) (s_N (s_L (s_o_if_ne dX10_targetBy_7 (by decide))) (s_L (s_iconst dX10_targetBy_10 (by decide +kernel)))))) (s_N (s_N (s_L (s_o_goto dX10_targetBy_11 (by decide))) (s_N (s_L (s_iload_n dX10_targetBy_14 rfl)) (s_L (s_o_if_ne dX10_targetBy_15 (by decide))))) (s_N (s_N (s_L (s_iconst dX10_targetBy_18 (by decide +kernel))) (s_L (s_o_goto dX10_targetBy_19 (by decide)))) (s_N (s_L (s_iload_n dX10_targetBy_22 rfl)) (s_L (s_iconst dX10_targetBy_23 (by decide +kernel))))))) (s_N (s_N (s_N (s_L (s_o_icmp_ne dX10_targetBy_24 (by decide))) (s_N (s_L (s_aload_n dX10_targetBy_27 rfl)) (s_L (s_callV (d' := tX10_sweeping) (mc := 0) (ms := 0) ok_8 cc_X10_targetBy_X10_sweeping qw_1070 qw_1072 qw_38 dX10_targetBy_28)))) (s_N (s_N (s_L (s_o_goto dX10_targetBy_31 (by decide))) (s_L (s_iload_n dX10_targetBy_34 rfl))) (s_N (s_L (s_iconst dX10_targetBy_35 (by decide +kernel))) (s_L (s_o_icmp_ne dX10_targetBy_36 (by decide)))))) (s_N (s_N (s_L (s_aload_n dX10_targetBy_39 rfl)) (s_N (s_L (s_iconst dX10_targetBy_40 (by decide +kernel))) (s_L (s_callV (d' := tX10_nearest) (mc := 0) (ms := 0) ok_8 cc_X10_targetBy_X10_nearest qw_1074 qw_1076 qw_39 dX10_targetBy_41)))) (s_N (s_N (s_L (s_o_goto dX10_targetBy_44 (by decide))) (s_L (s_aload_n dX10_targetBy_47 rfl))) (s_N (s_L (s_callV (d' := tX10_earliest) (mc := 0) (ms := 0) ok_8 cc_X10_targetBy_X10_earliest qw_1089 qw_1091 qw_42 dX10_targetBy_48)) (s_L (s_iret rfl dX10_targetBy_51))))))
/-! PlateArmModel.steps -/
theorem dX10_steps_0 : decode cX10_steps 0 = .ok (.aload_n 0, 1) := by decide +kernel
theorem dX10_steps_1 : decode cX10_steps 1 = .ok (.getfield 7, 3) := by decide +kernel
theorem dX10_steps_4 : decode cX10_steps 4 = .ok (.bipush 17, 2) := by decide +kernel
theorem dX10_steps_6 : decode cX10_steps 6 = .ok (.iload_n 1, 1) := by decide +kernel
theorem dX10_steps_7 : decode cX10_steps 7 = .ok (.iastore, 1) := by decide +kernel
theorem dX10_steps_8 : decode cX10_steps 8 = .ok (.aload_n 0, 1) := by decide +kernel
theorem dX10_steps_9 : decode cX10_steps 9 = .ok (.getfield 7, 3) := by decide +kernel
theorem dX10_steps_12 : decode cX10_steps 12 = .ok (.bipush 16, 2) := by decide +kernel
theorem dX10_steps_14 : decode cX10_steps 14 = .ok (.dup2, 1) := by decide +kernel
theorem dX10_steps_15 : decode cX10_steps 15 = .ok (.iaload, 1) := by decide +kernel
theorem dX10_steps_16 : decode cX10_steps 16 = .ok (.iload_n 1, 1) := by decide +kernel
theorem dX10_steps_17 : decode cX10_steps 17 = .ok (.iconst 1, 1) := by decide +kernel
theorem dX10_steps_18 : decode cX10_steps 18 = .ok (.if_icmp .ne 7, 3) := by decide +kernel
theorem dX10_steps_21 : decode cX10_steps 21 = .ok (.iconst 1, 1) := by decide +kernel
theorem dX10_steps_22 : decode cX10_steps 22 = .ok (.goto 4, 3) := by decide +kernel
theorem dX10_steps_25 : decode cX10_steps 25 = .ok (.iconst (-1), 1) := by decide +kernel
theorem dX10_steps_26 : decode cX10_steps 26 = .ok (.iadd, 1) := by decide +kernel
theorem dX10_steps_27 : decode cX10_steps 27 = .ok (.iastore, 1) := by decide +kernel
theorem dX10_steps_28 : decode cX10_steps 28 = .ok (.aload_n 0, 1) := by decide +kernel
theorem dX10_steps_29 : decode cX10_steps 29 = .ok (.getfield 7, 3) := by decide +kernel
theorem dX10_steps_32 : decode cX10_steps 32 = .ok (.bipush 18, 2) := by decide +kernel
theorem dX10_steps_34 : decode cX10_steps 34 = .ok (.dup2, 1) := by decide +kernel
theorem dX10_steps_35 : decode cX10_steps 35 = .ok (.iaload, 1) := by decide +kernel
theorem dX10_steps_36 : decode cX10_steps 36 = .ok (.iload_n 2, 1) := by decide +kernel
theorem dX10_steps_37 : decode cX10_steps 37 = .ok (.iadd, 1) := by decide +kernel
theorem dX10_steps_38 : decode cX10_steps 38 = .ok (.iastore, 1) := by decide +kernel
theorem dX10_steps_39 : decode cX10_steps 39 = .ok (.aload_n 0, 1) := by decide +kernel
theorem dX10_steps_40 : decode cX10_steps 40 = .ok (.getfield 7, 3) := by decide +kernel
theorem dX10_steps_43 : decode cX10_steps 43 = .ok (.bipush 11, 2) := by decide +kernel
theorem dX10_steps_45 : decode cX10_steps 45 = .ok (.dup2, 1) := by decide +kernel
theorem dX10_steps_46 : decode cX10_steps 46 = .ok (.iaload, 1) := by decide +kernel
theorem dX10_steps_47 : decode cX10_steps 47 = .ok (.iconst 1, 1) := by decide +kernel
theorem dX10_steps_48 : decode cX10_steps 48 = .ok (.iadd, 1) := by decide +kernel
theorem dX10_steps_49 : decode cX10_steps 49 = .ok (.iastore, 1) := by decide +kernel
theorem dX10_steps_50 : decode cX10_steps 50 = .ok (.return_, 1) := by decide +kernel
def kX10_steps : Nat → WOp := cN 26 (cN 12 (cN 6 (cN 1 (cN 0 (cL 0 (o_aload 1 0)) (cL 1 (o_getf 4 8 0))) (cN 4 (cL 4 (o_push 6 17)) (cL 6 (o_iload 7 1)))) (cN 8 (cN 7 (cL 7 (o_iast 8)) (cL 8 (o_aload 9 0))) (cN 9 (cL 9 (o_getf 12 8 0)) (cL 12 (o_push 14 16))))) (cN 17 (cN 15 (cN 14 (cL 14 (o_dup2 15)) (cL 15 (o_iald 16))) (cN 16 (cL 16 (o_iload 17 1)) (cL 17 (o_push 18 1)))) (cN 21 (cN 18 (cL 18 (o_icmp_ne 25 21)) (cL 21 (o_push 22 1))) (cN 22 (cL 22 (o_goto 26)) (cN 25 (cL 25 (o_push 26 (-1))) (cL 26 (o_iadd 27))))))) (cN 38 (cN 32 (cN 28 (cN 27 (cL 27 (o_iast 28)) (cL 28 (o_aload 29 0))) (cN 29 (cL 29 (o_getf 32 8 0)) (cL 32 (o_push 34 18)))) (cN 35 (cN 34 (cL 34 (o_dup2 35)) (cL 35 (o_iald 36))) (cN 36 (cL 36 (o_iload 37 2)) (cN 37 (cL 37 (o_iadd 38)) (cL 38 (o_iast 39)))))) (cN 45 (cN 40 (cN 39 (cL 39 (o_aload 40 0)) (cL 40 (o_getf 43 8 0))) (cN 43 (cL 43 (o_push 45 11)) (cL 45 (o_dup2 46)))) (cN 47 (cN 46 (cL 46 (o_iald 47)) (cL 47 (o_push 48 1))) (cN 48 (cL 48 (o_iadd 49)) (cN 49 (cL 49 (o_iast 50)) (cL 50 (o_vret)))))))
theorem sX10_steps : ∀ pc, Snd tX10_steps G1 pc (kX10_steps pc) := s_N (s_N (s_N (s_N (s_N (s_L (s_aload_n dX10_steps_0 rfl)) (s_L (s_getf ok_8 (k := 0) (by decide) dX10_steps_1 qw_972))) (s_N (s_L (s_bipush dX10_steps_4 (by decide +kernel))) (s_L (s_iload_n dX10_steps_6 rfl)))) (s_N (s_N (s_L (s_iast dX10_steps_7)) (s_L (s_aload_n dX10_steps_8 rfl))) (s_N (s_L (s_getf ok_8 (k := 0) (by decide) dX10_steps_9 qw_972)) (s_L (s_bipush dX10_steps_12 (by decide +kernel)))))) (s_N (s_N (s_N (s_L (s_o_dup2 dX10_steps_14)) (s_L (s_iald dX10_steps_15))) (s_N (s_L (s_iload_n dX10_steps_16 rfl)) (s_L (s_iconst dX10_steps_17 (by decide +kernel))))) (s_N (s_N (s_L (s_o_icmp_ne dX10_steps_18 (by decide))) (s_L (s_iconst dX10_steps_21 (by decide +kernel)))) (s_N (s_L (s_o_goto dX10_steps_22 (by decide))) (s_N (s_L (s_iconst dX10_steps_25 (by decide +kernel))) (s_L (s_o_iadd dX10_steps_26))))))) (s_N (s_N (s_N (s_N (s_L (s_iast dX10_steps_27)) (s_L (s_aload_n dX10_steps_28 rfl))) (s_N (s_L (s_getf ok_8 (k := 0) (by decide) dX10_steps_29 qw_972)) (s_L (s_bipush dX10_steps_32 (by decide +kernel))))) (s_N (s_N (s_L (s_o_dup2 dX10_steps_34)) (s_L (s_iald dX10_steps_35))) (s_N (s_L (s_iload_n dX10_steps_36 rfl)) (s_N (s_L (s_o_iadd dX10_steps_37)) (s_L (s_iast dX10_steps_38)))))) (s_N (s_N (s_N (s_L (s_aload_n dX10_steps_39 rfl)) (s_L (s_getf ok_8 (k := 0) (by decide) dX10_steps_40 qw_972))) (s_N (s_L (s_bipush dX10_steps_43 (by decide +kernel))) (s_L (s_o_dup2 dX10_steps_45)))) (s_N (s_N (s_L (s_iald dX10_steps_46)) (s_L (s_iconst dX10_steps_47 (by decide +kernel)))) (s_N (s_L (s_o_iadd dX10_steps_48)) (s_N (s_L (s_iast dX10_steps_49)) (s_L (s_vret rfl dX10_steps_50)))))))
/-! PlateArmModel.moves -/
theorem dX10_moves_0 : decode cX10_moves 0 = .ok (.iload_n 1, 1) := by decide +kernel
theorem dX10_moves_1 : decode cX10_moves 1 = .ok (.iconst (-1), 1) := by decide +kernel
theorem dX10_moves_2 : decode cX10_moves 2 = .ok (.if_icmp .ne 7, 3) := by decide +kernel
theorem dX10_moves_5 : decode cX10_moves 5 = .ok (.iconst 0, 1) := by decide +kernel
theorem dX10_moves_6 : decode cX10_moves 6 = .ok (.goto 17, 3) := by decide +kernel
theorem dX10_moves_9 : decode cX10_moves 9 = .ok (.aload_n 0, 1) := by decide +kernel
theorem dX10_moves_10 : decode cX10_moves 10 = .ok (.iload_n 1, 1) := by decide +kernel
theorem dX10_moves_11 : decode cX10_moves 11 = .ok (.iconst 1, 1) := by decide +kernel
theorem dX10_moves_12 : decode cX10_moves 12 = .ok (.invokevirtual 39, 3) := by decide +kernel
theorem dX10_moves_15 : decode cX10_moves 15 = .ok (.aload_n 0, 1) := by decide +kernel
theorem dX10_moves_16 : decode cX10_moves 16 = .ok (.getfield 7, 3) := by decide +kernel
theorem dX10_moves_19 : decode cX10_moves 19 = .ok (.bipush 16, 2) := by decide +kernel
theorem dX10_moves_21 : decode cX10_moves 21 = .ok (.iaload, 1) := by decide +kernel
theorem dX10_moves_22 : decode cX10_moves 22 = .ok (.isub, 1) := by decide +kernel
theorem dX10_moves_23 : decode cX10_moves 23 = .ok (.istore_n 2, 1) := by decide +kernel
theorem dX10_moves_24 : decode cX10_moves 24 = .ok (.aload_n 0, 1) := by decide +kernel
theorem dX10_moves_25 : decode cX10_moves 25 = .ok (.getfield 7, 3) := by decide +kernel
theorem dX10_moves_28 : decode cX10_moves 28 = .ok (.bipush 17, 2) := by decide +kernel
theorem dX10_moves_30 : decode cX10_moves 30 = .ok (.iaload, 1) := by decide +kernel
theorem dX10_moves_31 : decode cX10_moves 31 = .ok (.ifCond .ne 45, 3) := by decide +kernel
theorem dX10_moves_34 : decode cX10_moves 34 = .ok (.iload_n 2, 1) := by decide +kernel
theorem dX10_moves_35 : decode cX10_moves 35 = .ok (.ifCond .eq 113, 3) := by decide +kernel
theorem dX10_moves_38 : decode cX10_moves 38 = .ok (.aload_n 0, 1) := by decide +kernel
theorem dX10_moves_39 : decode cX10_moves 39 = .ok (.getfield 7, 3) := by decide +kernel
theorem dX10_moves_42 : decode cX10_moves 42 = .ok (.bipush 19, 2) := by decide +kernel
theorem dX10_moves_44 : decode cX10_moves 44 = .ok (.iaload, 1) := by decide +kernel
theorem dX10_moves_45 : decode cX10_moves 45 = .ok (.ifCond .ne 103, 3) := by decide +kernel
theorem dX10_moves_48 : decode cX10_moves 48 = .ok (.aload_n 0, 1) := by decide +kernel
theorem dX10_moves_49 : decode cX10_moves 49 = .ok (.getfield 7, 3) := by decide +kernel
theorem dX10_moves_52 : decode cX10_moves 52 = .ok (.bipush 12, 2) := by decide +kernel
theorem dX10_moves_54 : decode cX10_moves 54 = .ok (.dup2, 1) := by decide +kernel
theorem dX10_moves_55 : decode cX10_moves 55 = .ok (.iaload, 1) := by decide +kernel
theorem dX10_moves_56 : decode cX10_moves 56 = .ok (.iconst 1, 1) := by decide +kernel
theorem dX10_moves_57 : decode cX10_moves 57 = .ok (.iadd, 1) := by decide +kernel
theorem dX10_moves_58 : decode cX10_moves 58 = .ok (.iastore, 1) := by decide +kernel
theorem dX10_moves_59 : decode cX10_moves 59 = .ok (.aload_n 0, 1) := by decide +kernel
theorem dX10_moves_60 : decode cX10_moves 60 = .ok (.iload_n 2, 1) := by decide +kernel
theorem dX10_moves_61 : decode cX10_moves 61 = .ok (.ifCond .le 7, 3) := by decide +kernel
theorem dX10_moves_64 : decode cX10_moves 64 = .ok (.iconst 1, 1) := by decide +kernel
theorem dX10_moves_65 : decode cX10_moves 65 = .ok (.goto 4, 3) := by decide +kernel
theorem dX10_moves_68 : decode cX10_moves 68 = .ok (.iconst 2, 1) := by decide +kernel
theorem dX10_moves_69 : decode cX10_moves 69 = .ok (.iconst 2, 1) := by decide +kernel
theorem dX10_moves_70 : decode cX10_moves 70 = .ok (.invokevirtual 64, 3) := by decide +kernel
theorem dX10_moves_73 : decode cX10_moves 73 = .ok (.goto 75, 3) := by decide +kernel
theorem dX10_moves_76 : decode cX10_moves 76 = .ok (.aload_n 0, 1) := by decide +kernel
theorem dX10_moves_77 : decode cX10_moves 77 = .ok (.getfield 7, 3) := by decide +kernel
theorem dX10_moves_80 : decode cX10_moves 80 = .ok (.bipush 17, 2) := by decide +kernel
theorem dX10_moves_82 : decode cX10_moves 82 = .ok (.iaload, 1) := by decide +kernel
theorem dX10_moves_83 : decode cX10_moves 83 = .ok (.iconst 1, 1) := by decide +kernel
theorem dX10_moves_84 : decode cX10_moves 84 = .ok (.if_icmp .ne 10, 3) := by decide +kernel
theorem dX10_moves_87 : decode cX10_moves 87 = .ok (.iload_n 2, 1) := by decide +kernel
theorem dX10_moves_88 : decode cX10_moves 88 = .ok (.ifCond .le 25, 3) := by decide +kernel
theorem dX10_moves_91 : decode cX10_moves 91 = .ok (.goto 7, 3) := by decide +kernel
theorem dX10_moves_94 : decode cX10_moves 94 = .ok (.iload_n 2, 1) := by decide +kernel
theorem dX10_moves_95 : decode cX10_moves 95 = .ok (.ifCond .ge 18, 3) := by decide +kernel
theorem dX10_moves_98 : decode cX10_moves 98 = .ok (.aload_n 0, 1) := by decide +kernel
theorem dX10_moves_99 : decode cX10_moves 99 = .ok (.aload_n 0, 1) := by decide +kernel
theorem dX10_moves_100 : decode cX10_moves 100 = .ok (.getfield 7, 3) := by decide +kernel
theorem dX10_moves_103 : decode cX10_moves 103 = .ok (.bipush 17, 2) := by decide +kernel
theorem dX10_moves_105 : decode cX10_moves 105 = .ok (.iaload, 1) := by decide +kernel
theorem dX10_moves_106 : decode cX10_moves 106 = .ok (.iconst 1, 1) := by decide +kernel
theorem dX10_moves_107 : decode cX10_moves 107 = .ok (.invokevirtual 64, 3) := by decide +kernel
theorem dX10_moves_110 : decode cX10_moves 110 = .ok (.goto 38, 3) := by decide +kernel
theorem dX10_moves_113 : decode cX10_moves 113 = .ok (.aload_n 0, 1) := by decide +kernel
theorem dX10_moves_114 : decode cX10_moves 114 = .ok (.getfield 7, 3) := by decide +kernel
theorem dX10_moves_117 : decode cX10_moves 117 = .ok (.bipush 17, 2) := by decide +kernel
theorem dX10_moves_119 : decode cX10_moves 119 = .ok (.iconst 0, 1) := by decide +kernel
theorem dX10_moves_120 : decode cX10_moves 120 = .ok (.iastore, 1) := by decide +kernel
theorem dX10_moves_121 : decode cX10_moves 121 = .ok (.aload_n 0, 1) := by decide +kernel
theorem dX10_moves_122 : decode cX10_moves 122 = .ok (.getfield 7, 3) := by decide +kernel
theorem dX10_moves_125 : decode cX10_moves 125 = .ok (.bipush 18, 2) := by decide +kernel
theorem dX10_moves_127 : decode cX10_moves 127 = .ok (.dup2, 1) := by decide +kernel
theorem dX10_moves_128 : decode cX10_moves 128 = .ok (.iaload, 1) := by decide +kernel
theorem dX10_moves_129 : decode cX10_moves 129 = .ok (.aload_n 0, 1) := by decide +kernel
theorem dX10_moves_130 : decode cX10_moves 130 = .ok (.getfield 7, 3) := by decide +kernel
theorem dX10_moves_133 : decode cX10_moves 133 = .ok (.iconst 3, 1) := by decide +kernel
theorem dX10_moves_134 : decode cX10_moves 134 = .ok (.iaload, 1) := by decide +kernel
theorem dX10_moves_135 : decode cX10_moves 135 = .ok (.iadd, 1) := by decide +kernel
theorem dX10_moves_136 : decode cX10_moves 136 = .ok (.iastore, 1) := by decide +kernel
theorem dX10_moves_137 : decode cX10_moves 137 = .ok (.aload_n 0, 1) := by decide +kernel
theorem dX10_moves_138 : decode cX10_moves 138 = .ok (.getfield 7, 3) := by decide +kernel
theorem dX10_moves_141 : decode cX10_moves 141 = .ok (.bipush 13, 2) := by decide +kernel
theorem dX10_moves_143 : decode cX10_moves 143 = .ok (.dup2, 1) := by decide +kernel
theorem dX10_moves_144 : decode cX10_moves 144 = .ok (.iaload, 1) := by decide +kernel
theorem dX10_moves_145 : decode cX10_moves 145 = .ok (.iconst 1, 1) := by decide +kernel
theorem dX10_moves_146 : decode cX10_moves 146 = .ok (.iadd, 1) := by decide +kernel
theorem dX10_moves_147 : decode cX10_moves 147 = .ok (.iastore, 1) := by decide +kernel
theorem dX10_moves_148 : decode cX10_moves 148 = .ok (.return_, 1) := by decide +kernel
theorem cc_X10_moves_X10_of : CallC tX10_moves tX10_of 2 := ⟨by decide +kernel, by decide +kernel, by decide +kernel, by decide, by decide, qw_80, qw_1049⟩
theorem cc_X10_moves_X10_steps : CallC tX10_moves tX10_steps 2 := ⟨by decide +kernel, by decide +kernel, by decide +kernel, by decide, by decide, qw_80, qw_1100⟩
def kX10_moves : Nat → WOp := cN 73 (cN 35 (cN 16 (cN 6 (cN 1 (cN 0 (cL 0 (o_iload 1 1)) (cL 1 (o_push 2 (-1)))) (cN 2 (cL 2 (o_icmp_ne 9 5)) (cN 5 (cL 5 (o_push 6 0)) (cL 6 (o_goto 23))))) (cN 11 (cN 9 (cL 9 (o_aload 10 0)) (cN 10 (cL 10 (o_iload 11 1)) (cL 11 (o_push 12 1)))) (cN 12 (cL 12 (o_callV 15 8 2 tX10_of 0 0)) (cN 15 (cL 15 (o_aload 16 0)) (cL 16 (o_getf 19 8 0)))))) (cN 24 (cN 21 (cN 19 (cL 19 (o_push 21 16)) (cL 21 (o_iald 22))) (cN 22 (cL 22 (o_isub 23)) (cN 23 (cL 23 (o_istore 24 2)) (cL 24 (o_aload 25 0))))) (cN 30 (cN 25 (cL 25 (o_getf 28 8 0)) (cN 28 (cL 28 (o_push 30 17)) (cL 30 (o_iald 31)))) (cN 31 (cL 31 (o_if_ne 76 34)) (cN 34 (cL 34 (o_iload 35 2)) (cL 35 (o_if_eq 148 38))))))) (cN 56 (cN 45 (cN 39 (cN 38 (cL 38 (o_aload 39 0)) (cL 39 (o_getf 42 8 0))) (cN 42 (cL 42 (o_push 44 19)) (cN 44 (cL 44 (o_iald 45)) (cL 45 (o_if_ne 148 48))))) (cN 52 (cN 48 (cL 48 (o_aload 49 0)) (cN 49 (cL 49 (o_getf 52 8 0)) (cL 52 (o_push 54 12)))) (cN 54 (cL 54 (o_dup2 55)) (cN 55 (cL 55 (o_iald 56)) (cL 56 (o_push 57 1)))))) (cN 61 (cN 58 (cN 57 (cL 57 (o_iadd 58)) (cL 58 (o_iast 59))) (cN 59 (cL 59 (o_aload 60 0)) (cN 60 (cL 60 (o_iload 61 2)) (cL 61 (o_if_le 68 64))))) (cN 68 (cN 64 (cL 64 (o_push 65 1)) (cN 65 (cL 65 (o_goto 69)) (cL 68 (o_push 69 2)))) (cN 69 (cL 69 (o_push 70 2)) (cN 70 (cL 70 (o_callV 73 8 2 tX10_steps 0 0)) (cL 73 (o_goto 148)))))))) (cN 117 (cN 95 (cN 83 (cN 77 (cN 76 (cL 76 (o_aload 77 0)) (cL 77 (o_getf 80 8 0))) (cN 80 (cL 80 (o_push 82 17)) (cN 82 (cL 82 (o_iald 83)) (cL 83 (o_push 84 1))))) (cN 88 (cN 84 (cL 84 (o_icmp_ne 94 87)) (cN 87 (cL 87 (o_iload 88 2)) (cL 88 (o_if_le 113 91)))) (cN 91 (cL 91 (o_goto 98)) (cN 94 (cL 94 (o_iload 95 2)) (cL 95 (o_if_ge 113 98)))))) (cN 105 (cN 99 (cN 98 (cL 98 (o_aload 99 0)) (cL 99 (o_aload 100 0))) (cN 100 (cL 100 (o_getf 103 8 0)) (cN 103 (cL 103 (o_push 105 17)) (cL 105 (o_iald 106))))) (cN 110 (cN 106 (cL 106 (o_push 107 1)) (cN 107 (cL 107 (o_callV 110 8 2 tX10_steps 0 0)) (cL 110 (o_goto 148)))) (cN 113 (cL 113 (o_aload 114 0)) (cN 114 (cL 114 (o_getf 117 8 0)) (cL 117 (o_push 119 17))))))) (cN 134 (cN 125 (cN 120 (cN 119 (cL 119 (o_push 120 0)) (cL 120 (o_iast 121))) (cN 121 (cL 121 (o_aload 122 0)) (cN 122 (cL 122 (o_getf 125 8 0)) (cL 125 (o_push 127 18))))) (cN 129 (cN 127 (cL 127 (o_dup2 128)) (cN 128 (cL 128 (o_iald 129)) (cL 129 (o_aload 130 0)))) (cN 130 (cL 130 (o_getf 133 8 0)) (cN 133 (cL 133 (o_push 134 3)) (cL 134 (o_iald 135)))))) (cN 141 (cN 136 (cN 135 (cL 135 (o_iadd 136)) (cL 136 (o_iast 137))) (cN 137 (cL 137 (o_aload 138 0)) (cN 138 (cL 138 (o_getf 141 8 0)) (cL 141 (o_push 143 13))))) (cN 145 (cN 143 (cL 143 (o_dup2 144)) (cN 144 (cL 144 (o_iald 145)) (cL 145 (o_push 146 1)))) (cN 146 (cL 146 (o_iadd 147)) (cN 147 (cL 147 (o_iast 148)) (cL 148 (o_vret))))))))
theorem sX10_moves : ∀ pc, Snd tX10_moves G1 pc (kX10_moves pc) := s_N (s_N (s_N (s_N (s_N (s_N (s_L (s_iload_n dX10_moves_0 rfl)) (s_L (s_iconst dX10_moves_1 (by decide +kernel)))) (s_N (s_L (s_o_icmp_ne dX10_moves_2 (by decide))) (s_N (s_L (s_iconst dX10_moves_5 (by decide +kernel))) (s_L (s_o_goto dX10_moves_6 (by decide)))))) (s_N (s_N (s_L (s_aload_n dX10_moves_9 rfl)) (s_N (s_L (s_iload_n dX10_moves_10 rfl)) (s_L (s_iconst dX10_moves_11 (by decide +kernel))))) (s_N (s_L (s_callV (d' := tX10_of) (mc := 0) (ms := 0) ok_8 cc_X10_moves_X10_of qw_1046 qw_1048 qw_34 dX10_moves_12)) (s_N (s_L (s_aload_n dX10_moves_15 rfl)) (s_L (s_getf ok_8 (k := 0) (by decide) dX10_moves_16 qw_972)))))) (s_N (s_N (s_N (s_L (s_bipush dX10_moves_19 (by decide +kernel))) (s_L (s_iald dX10_moves_21))) (s_N (s_L (s_o_isub dX10_moves_22)) (s_N (s_L (s_istore_n dX10_moves_23 rfl (by decide))) (s_L (s_aload_n dX10_moves_24 rfl))))) (s_N (s_N (s_L (s_getf ok_8 (k := 0) (by decide) dX10_moves_25 qw_972)) (s_N (s_L (s_bipush dX10_moves_28 (by decide +kernel))) (s_L (s_iald dX10_moves_30)))) (s_N (s_L (s_o_if_ne dX10_moves_31 (by decide))) (s_N (s_L (s_iload_n dX10_moves_34 rfl)) (s_L (s_o_if_eq dX10_moves_35 (by decide)))))))) (s_N (s_N (s_N (s_N (s_L (s_aload_n dX10_moves_38 rfl)) (s_L (s_getf ok_8 (k := 0) (by decide) dX10_moves_39 qw_972))) (s_N (s_L (s_bipush dX10_moves_42 (by decide +kernel))) (s_N (s_L (s_iald dX10_moves_44)) (s_L (s_o_if_ne dX10_moves_45 (by decide)))))) (s_N (s_N (s_L (s_aload_n dX10_moves_48 rfl)) (s_N (s_L (s_getf ok_8 (k := 0) (by decide) dX10_moves_49 qw_972)) (s_L (s_bipush dX10_moves_52 (by decide +kernel))))) (s_N (s_L (s_o_dup2 dX10_moves_54)) (s_N (s_L (s_iald dX10_moves_55)) (s_L (s_iconst dX10_moves_56 (by decide +kernel))))))) (s_N (s_N (s_N (s_L (s_o_iadd dX10_moves_57)) (s_L (s_iast dX10_moves_58))) (s_N (s_L (s_aload_n dX10_moves_59 rfl)) (s_N (s_L (s_iload_n dX10_moves_60 rfl)) (s_L (s_o_if_le dX10_moves_61 (by decide)))))) (s_N (s_N (s_L (s_iconst dX10_moves_64 (by decide +kernel))) (s_N (s_L (s_o_goto dX10_moves_65 (by decide))) (s_L (s_iconst dX10_moves_68 (by decide +kernel))))) (s_N (s_L (s_iconst dX10_moves_69 (by decide +kernel))) (s_N (s_L (s_callV (d' := tX10_steps) (mc := 0) (ms := 0) ok_8 cc_X10_moves_X10_steps qw_1097 qw_1099 qw_44 dX10_moves_70)) (s_L (s_o_goto dX10_moves_73 (by decide))))))))) (s_N (s_N (s_N (s_N (s_N (s_L (s_aload_n dX10_moves_76 rfl)) (s_L (s_getf ok_8 (k := 0) (by decide) dX10_moves_77 qw_972))) (s_N (s_L (s_bipush dX10_moves_80 (by decide +kernel))) (s_N (s_L (s_iald dX10_moves_82)) (s_L (s_iconst dX10_moves_83 (by decide +kernel)))))) (s_N (s_N (s_L (s_o_icmp_ne dX10_moves_84 (by decide))) (s_N (s_L (s_iload_n dX10_moves_87 rfl)) (s_L (s_o_if_le dX10_moves_88 (by decide))))) (s_N (s_L (s_o_goto dX10_moves_91 (by decide))) (s_N (s_L (s_iload_n dX10_moves_94 rfl)) (s_L (s_o_if_ge dX10_moves_95 (by decide))))))) (s_N (s_N (s_N (s_L (s_aload_n dX10_moves_98 rfl)) (s_L (s_aload_n dX10_moves_99 rfl))) (s_N (s_L (s_getf ok_8 (k := 0) (by decide) dX10_moves_100 qw_972)) (s_N (s_L (s_bipush dX10_moves_103 (by decide +kernel))) (s_L (s_iald dX10_moves_105))))) (s_N (s_N (s_L (s_iconst dX10_moves_106 (by decide +kernel))) (s_N (s_L (s_callV (d' := tX10_steps) (mc := 0) (ms := 0) ok_8 cc_X10_moves_X10_steps qw_1097 qw_1099 qw_44 dX10_moves_107)) (s_L (s_o_goto dX10_moves_110 (by decide))))) (s_N (s_L (s_aload_n dX10_moves_113 rfl)) (s_N (s_L (s_getf ok_8 (k := 0) (by decide) dX10_moves_114 qw_972)) (s_L (s_bipush dX10_moves_117 (by decide +kernel)))))))) (s_N (s_N (s_N (s_N (s_L (s_iconst dX10_moves_119 (by decide +kernel))) (s_L (s_iast dX10_moves_120))) (s_N (s_L (s_aload_n dX10_moves_121 rfl)) (s_N (s_L (s_getf ok_8 (k := 0) (by decide) dX10_moves_122 qw_972)) (s_L (s_bipush dX10_moves_125 (by decide +kernel)))))) (s_N (s_N (s_L (s_o_dup2 dX10_moves_127)) (s_N (s_L (s_iald dX10_moves_128)) (s_L (s_aload_n dX10_moves_129 rfl)))) (s_N (s_L (s_getf ok_8 (k := 0) (by decide) dX10_moves_130 qw_972)) (s_N (s_L (s_iconst dX10_moves_133 (by decide +kernel))) (s_L (s_iald dX10_moves_134)))))) (s_N (s_N (s_N (s_L (s_o_iadd dX10_moves_135)) (s_L (s_iast dX10_moves_136))) (s_N (s_L (s_aload_n dX10_moves_137 rfl)) (s_N (s_L (s_getf ok_8 (k := 0) (by decide) dX10_moves_138 qw_972)) (s_L (s_bipush dX10_moves_141 (by decide +kernel)))))) (s_N (s_N (s_L (s_o_dup2 dX10_moves_143)) (s_N (s_L (s_iald dX10_moves_144)) (s_L (s_iconst dX10_moves_145 (by decide +kernel))))) (s_N (s_L (s_o_iadd dX10_moves_146)) (s_N (s_L (s_iast dX10_moves_147)) (s_L (s_vret rfl dX10_moves_148))))))))
/-! PlateArmModel.logs -/
theorem dX10_logs_0 : decode cX10_logs 0 = .ok (.aload_n 0, 1) := by decide +kernel
theorem dX10_logs_1 : decode cX10_logs 1 = .ok (.aload_n 0, 1) := by decide +kernel
theorem dX10_logs_2 : decode cX10_logs 2 = .ok (.iload_n 1, 1) := by decide +kernel
theorem dX10_logs_3 : decode cX10_logs 3 = .ok (.iconst 0, 1) := by decide +kernel
theorem dX10_logs_4 : decode cX10_logs 4 = .ok (.invokevirtual 39, 3) := by decide +kernel
theorem dX10_logs_7 : decode cX10_logs 7 = .ok (.aload_n 0, 1) := by decide +kernel
theorem dX10_logs_8 : decode cX10_logs 8 = .ok (.getfield 22, 3) := by decide +kernel
theorem dX10_logs_11 : decode cX10_logs 11 = .ok (.if_icmp .ne 13, 3) := by decide +kernel
theorem dX10_logs_14 : decode cX10_logs 14 = .ok (.aload_n 0, 1) := by decide +kernel
theorem dX10_logs_15 : decode cX10_logs 15 = .ok (.getfield 7, 3) := by decide +kernel
theorem dX10_logs_18 : decode cX10_logs 18 = .ok (.bipush 6, 2) := by decide +kernel
theorem dX10_logs_20 : decode cX10_logs 20 = .ok (.iaload, 1) := by decide +kernel
theorem dX10_logs_21 : decode cX10_logs 21 = .ok (.goto 7, 3) := by decide +kernel
theorem dX10_logs_24 : decode cX10_logs 24 = .ok (.aload_n 0, 1) := by decide +kernel
theorem dX10_logs_25 : decode cX10_logs 25 = .ok (.getfield 68, 3) := by decide +kernel
theorem dX10_logs_28 : decode cX10_logs 28 = .ok (.putfield 68, 3) := by decide +kernel
theorem dX10_logs_31 : decode cX10_logs 31 = .ok (.sipush 132, 3) := by decide +kernel
theorem dX10_logs_34 : decode cX10_logs 34 = .ok (.istore_n 2, 1) := by decide +kernel
theorem dX10_logs_35 : decode cX10_logs 35 = .ok (.iload_n 2, 1) := by decide +kernel
theorem dX10_logs_36 : decode cX10_logs 36 = .ok (.bipush 88, 2) := by decide +kernel
theorem dX10_logs_38 : decode cX10_logs 38 = .ok (.if_icmp .lt 23, 3) := by decide +kernel
theorem dX10_logs_41 : decode cX10_logs 41 = .ok (.aload_n 0, 1) := by decide +kernel
theorem dX10_logs_42 : decode cX10_logs 42 = .ok (.getfield 7, 3) := by decide +kernel
theorem dX10_logs_45 : decode cX10_logs 45 = .ok (.iload_n 2, 1) := by decide +kernel
theorem dX10_logs_46 : decode cX10_logs 46 = .ok (.aload_n 0, 1) := by decide +kernel
theorem dX10_logs_47 : decode cX10_logs 47 = .ok (.getfield 7, 3) := by decide +kernel
theorem dX10_logs_50 : decode cX10_logs 50 = .ok (.iload_n 2, 1) := by decide +kernel
theorem dX10_logs_51 : decode cX10_logs 51 = .ok (.iconst 5, 1) := by decide +kernel
theorem dX10_logs_52 : decode cX10_logs 52 = .ok (.isub, 1) := by decide +kernel
theorem dX10_logs_53 : decode cX10_logs 53 = .ok (.iaload, 1) := by decide +kernel
theorem dX10_logs_54 : decode cX10_logs 54 = .ok (.iastore, 1) := by decide +kernel
theorem dX10_logs_55 : decode cX10_logs 55 = .ok (.iinc 2 (-1), 3) := by decide +kernel
theorem dX10_logs_58 : decode cX10_logs 58 = .ok (.goto (-23), 3) := by decide +kernel
theorem dX10_logs_61 : decode cX10_logs 61 = .ok (.aload_n 0, 1) := by decide +kernel
theorem dX10_logs_62 : decode cX10_logs 62 = .ok (.getfield 7, 3) := by decide +kernel
theorem dX10_logs_65 : decode cX10_logs 65 = .ok (.bipush 6, 2) := by decide +kernel
theorem dX10_logs_67 : decode cX10_logs 67 = .ok (.iaload, 1) := by decide +kernel
theorem dX10_logs_68 : decode cX10_logs 68 = .ok (.aload_n 0, 1) := by decide +kernel
theorem dX10_logs_69 : decode cX10_logs 69 = .ok (.iload_n 1, 1) := by decide +kernel
theorem dX10_logs_70 : decode cX10_logs 70 = .ok (.iconst 3, 1) := by decide +kernel
theorem dX10_logs_71 : decode cX10_logs 71 = .ok (.invokevirtual 39, 3) := by decide +kernel
theorem dX10_logs_74 : decode cX10_logs 74 = .ok (.if_icmp .le 7, 3) := by decide +kernel
theorem dX10_logs_77 : decode cX10_logs 77 = .ok (.iconst 1, 1) := by decide +kernel
theorem dX10_logs_78 : decode cX10_logs 78 = .ok (.goto 4, 3) := by decide +kernel
theorem dX10_logs_81 : decode cX10_logs 81 = .ok (.iconst 0, 1) := by decide +kernel
theorem dX10_logs_82 : decode cX10_logs 82 = .ok (.istore_n 2, 1) := by decide +kernel
theorem dX10_logs_83 : decode cX10_logs 83 = .ok (.aload_n 0, 1) := by decide +kernel
theorem dX10_logs_84 : decode cX10_logs 84 = .ok (.getfield 7, 3) := by decide +kernel
theorem dX10_logs_87 : decode cX10_logs 87 = .ok (.bipush 83, 2) := by decide +kernel
theorem dX10_logs_89 : decode cX10_logs 89 = .ok (.aload_n 0, 1) := by decide +kernel
theorem dX10_logs_90 : decode cX10_logs 90 = .ok (.iload_n 1, 1) := by decide +kernel
theorem dX10_logs_91 : decode cX10_logs 91 = .ok (.iconst 0, 1) := by decide +kernel
theorem dX10_logs_92 : decode cX10_logs 92 = .ok (.invokevirtual 39, 3) := by decide +kernel
theorem dX10_logs_95 : decode cX10_logs 95 = .ok (.iastore, 1) := by decide +kernel
theorem dX10_logs_96 : decode cX10_logs 96 = .ok (.aload_n 0, 1) := by decide +kernel
theorem dX10_logs_97 : decode cX10_logs 97 = .ok (.getfield 7, 3) := by decide +kernel
theorem dX10_logs_100 : decode cX10_logs 100 = .ok (.bipush 84, 2) := by decide +kernel
theorem dX10_logs_102 : decode cX10_logs 102 = .ok (.aload_n 0, 1) := by decide +kernel
theorem dX10_logs_103 : decode cX10_logs 103 = .ok (.iload_n 1, 1) := by decide +kernel
theorem dX10_logs_104 : decode cX10_logs 104 = .ok (.iconst 1, 1) := by decide +kernel
theorem dX10_logs_105 : decode cX10_logs 105 = .ok (.invokevirtual 39, 3) := by decide +kernel
theorem dX10_logs_108 : decode cX10_logs 108 = .ok (.iastore, 1) := by decide +kernel
theorem dX10_logs_109 : decode cX10_logs 109 = .ok (.aload_n 0, 1) := by decide +kernel
theorem dX10_logs_110 : decode cX10_logs 110 = .ok (.getfield 7, 3) := by decide +kernel
theorem dX10_logs_113 : decode cX10_logs 113 = .ok (.bipush 85, 2) := by decide +kernel
theorem dX10_logs_115 : decode cX10_logs 115 = .ok (.aload_n 0, 1) := by decide +kernel
theorem dX10_logs_116 : decode cX10_logs 116 = .ok (.iload_n 1, 1) := by decide +kernel
theorem dX10_logs_117 : decode cX10_logs 117 = .ok (.iconst 2, 1) := by decide +kernel
theorem dX10_logs_118 : decode cX10_logs 118 = .ok (.invokevirtual 39, 3) := by decide +kernel
theorem dX10_logs_121 : decode cX10_logs 121 = .ok (.iastore, 1) := by decide +kernel
theorem dX10_logs_122 : decode cX10_logs 122 = .ok (.aload_n 0, 1) := by decide +kernel
theorem dX10_logs_123 : decode cX10_logs 123 = .ok (.getfield 7, 3) := by decide +kernel
theorem dX10_logs_126 : decode cX10_logs 126 = .ok (.bipush 86, 2) := by decide +kernel
theorem dX10_logs_128 : decode cX10_logs 128 = .ok (.aload_n 0, 1) := by decide +kernel
theorem dX10_logs_129 : decode cX10_logs 129 = .ok (.getfield 7, 3) := by decide +kernel
theorem dX10_logs_132 : decode cX10_logs 132 = .ok (.bipush 6, 2) := by decide +kernel
theorem dX10_logs_134 : decode cX10_logs 134 = .ok (.iaload, 1) := by decide +kernel
theorem dX10_logs_135 : decode cX10_logs 135 = .ok (.iastore, 1) := by decide +kernel
theorem dX10_logs_136 : decode cX10_logs 136 = .ok (.aload_n 0, 1) := by decide +kernel
theorem dX10_logs_137 : decode cX10_logs 137 = .ok (.getfield 7, 3) := by decide +kernel
theorem dX10_logs_140 : decode cX10_logs 140 = .ok (.bipush 87, 2) := by decide +kernel
theorem dX10_logs_142 : decode cX10_logs 142 = .ok (.iload_n 2, 1) := by decide +kernel
theorem dX10_logs_143 : decode cX10_logs 143 = .ok (.ifCond .eq 7, 3) := by decide +kernel
theorem dX10_logs_146 : decode cX10_logs 146 = .ok (.iconst 1, 1) := by decide +kernel
theorem dX10_logs_147 : decode cX10_logs 147 = .ok (.goto 4, 3) := by decide +kernel
theorem dX10_logs_150 : decode cX10_logs 150 = .ok (.iconst 0, 1) := by decide +kernel
theorem dX10_logs_151 : decode cX10_logs 151 = .ok (.iastore, 1) := by decide +kernel
theorem dX10_logs_152 : decode cX10_logs 152 = .ok (.aload_n 0, 1) := by decide +kernel
theorem dX10_logs_153 : decode cX10_logs 153 = .ok (.getfield 7, 3) := by decide +kernel
theorem dX10_logs_156 : decode cX10_logs 156 = .ok (.bipush 22, 2) := by decide +kernel
theorem dX10_logs_158 : decode cX10_logs 158 = .ok (.dup2, 1) := by decide +kernel
theorem dX10_logs_159 : decode cX10_logs 159 = .ok (.iaload, 1) := by decide +kernel
theorem dX10_logs_160 : decode cX10_logs 160 = .ok (.aload_n 0, 1) := by decide +kernel
theorem dX10_logs_161 : decode cX10_logs 161 = .ok (.getfield 7, 3) := by decide +kernel
theorem dX10_logs_164 : decode cX10_logs 164 = .ok (.bipush 22, 2) := by decide +kernel
theorem dX10_logs_166 : decode cX10_logs 166 = .ok (.iaload, 1) := by decide +kernel
theorem dX10_logs_167 : decode cX10_logs 167 = .ok (.bipush 10, 2) := by decide +kernel
theorem dX10_logs_169 : decode cX10_logs 169 = .ok (.if_icmp .ge 7, 3) := by decide +kernel
theorem dX10_logs_172 : decode cX10_logs 172 = .ok (.iconst 1, 1) := by decide +kernel
theorem dX10_logs_173 : decode cX10_logs 173 = .ok (.goto 4, 3) := by decide +kernel
theorem dX10_logs_176 : decode cX10_logs 176 = .ok (.iconst 0, 1) := by decide +kernel
theorem dX10_logs_177 : decode cX10_logs 177 = .ok (.iadd, 1) := by decide +kernel
theorem dX10_logs_178 : decode cX10_logs 178 = .ok (.iastore, 1) := by decide +kernel
theorem dX10_logs_179 : decode cX10_logs 179 = .ok (.aload_n 0, 1) := by decide +kernel
theorem dX10_logs_180 : decode cX10_logs 180 = .ok (.getfield 7, 3) := by decide +kernel
theorem dX10_logs_183 : decode cX10_logs 183 = .ok (.bipush 8, 2) := by decide +kernel
theorem dX10_logs_185 : decode cX10_logs 185 = .ok (.dup2, 1) := by decide +kernel
theorem dX10_logs_186 : decode cX10_logs 186 = .ok (.iaload, 1) := by decide +kernel
theorem dX10_logs_187 : decode cX10_logs 187 = .ok (.iconst 1, 1) := by decide +kernel
theorem dX10_logs_188 : decode cX10_logs 188 = .ok (.iadd, 1) := by decide +kernel
theorem dX10_logs_189 : decode cX10_logs 189 = .ok (.iastore, 1) := by decide +kernel
theorem dX10_logs_190 : decode cX10_logs 190 = .ok (.aload_n 0, 1) := by decide +kernel
theorem dX10_logs_191 : decode cX10_logs 191 = .ok (.getfield 7, 3) := by decide +kernel
theorem dX10_logs_194 : decode cX10_logs 194 = .ok (.bipush 9, 2) := by decide +kernel
theorem dX10_logs_196 : decode cX10_logs 196 = .ok (.dup2, 1) := by decide +kernel
theorem dX10_logs_197 : decode cX10_logs 197 = .ok (.iaload, 1) := by decide +kernel
theorem dX10_logs_198 : decode cX10_logs 198 = .ok (.iload_n 2, 1) := by decide +kernel
theorem dX10_logs_199 : decode cX10_logs 199 = .ok (.ifCond .eq 7, 3) := by decide +kernel
theorem dX10_logs_202 : decode cX10_logs 202 = .ok (.iconst 1, 1) := by decide +kernel
theorem dX10_logs_203 : decode cX10_logs 203 = .ok (.goto 4, 3) := by decide +kernel
theorem dX10_logs_206 : decode cX10_logs 206 = .ok (.iconst 0, 1) := by decide +kernel
theorem dX10_logs_207 : decode cX10_logs 207 = .ok (.iadd, 1) := by decide +kernel
theorem dX10_logs_208 : decode cX10_logs 208 = .ok (.iastore, 1) := by decide +kernel
theorem dX10_logs_209 : decode cX10_logs 209 = .ok (.return_, 1) := by decide +kernel
theorem cc_X10_logs_X10_of : CallC tX10_logs tX10_of 2 := ⟨by decide +kernel, by decide +kernel, by decide +kernel, by decide, by decide, qw_80, qw_1049⟩
def kX10_logs : Nat → WOp := cN 108 (cN 54 (cN 25 (cN 8 (cN 2 (cN 0 (cL 0 (o_aload 1 0)) (cN 1 (cL 1 (o_aload 2 0)) (cL 2 (o_iload 3 1)))) (cN 4 (cN 3 (cL 3 (o_push 4 0)) (cL 4 (o_callV 7 8 2 tX10_of 0 0))) (cN 7 (cL 7 (o_aload 8 0)) (cL 8 (o_getf 11 8 8))))) (cN 18 (cN 14 (cN 11 (cL 11 (o_icmp_ne 24 14)) (cL 14 (o_aload 15 0))) (cN 15 (cL 15 (o_getf 18 8 0)) (cL 18 (o_push 20 6)))) (cN 21 (cN 20 (cL 20 (o_iald 21)) (cL 21 (o_goto 28))) (cN 24 (cL 24 (o_aload 25 0)) (cL 25 (o_getf 28 8 9)))))) (cN 42 (cN 35 (cN 31 (cN 28 (cL 28 (o_puti 31 8 9)) (cL 31 (o_push 34 132))) (cN 34 (cL 34 (o_istore 35 2)) (cL 35 (o_iload 36 2)))) (cN 38 (cN 36 (cL 36 (o_push 38 88)) (cL 38 (o_icmp_lt 61 41))) (cN 41 (cL 41 (o_aload 42 0)) (cL 42 (o_getf 45 8 0))))) (cN 50 (cN 46 (cN 45 (cL 45 (o_iload 46 2)) (cL 46 (o_aload 47 0))) (cN 47 (cL 47 (o_getf 50 8 0)) (cL 50 (o_iload 51 2)))) (cN 52 (cN 51 (cL 51 (o_push 52 5)) (cL 52 (o_isub 53))) (cN 53 (cL 53 (o_iald 54)) (cL 54 (o_iast 55))))))) (cN 82 (cN 68 (cN 61 (cN 55 (cL 55 (o_iinc 58 2 (-1))) (cN 58 (cL 58 (o_goto 35)) (cL 61 (o_aload 62 0)))) (cN 65 (cN 62 (cL 62 (o_getf 65 8 0)) (cL 65 (o_push 67 6))) (cN 67 (cL 67 (o_iald 68)) (cL 68 (o_aload 69 0))))) (cN 74 (cN 70 (cN 69 (cL 69 (o_iload 70 1)) (cL 70 (o_push 71 3))) (cN 71 (cL 71 (o_callV 74 8 2 tX10_of 0 0)) (cL 74 (o_icmp_le 81 77)))) (cN 78 (cN 77 (cL 77 (o_push 78 1)) (cL 78 (o_goto 82))) (cN 81 (cL 81 (o_push 82 0)) (cL 82 (o_istore 83 2)))))) (cN 95 (cN 89 (cN 84 (cN 83 (cL 83 (o_aload 84 0)) (cL 84 (o_getf 87 8 0))) (cN 87 (cL 87 (o_push 89 83)) (cL 89 (o_aload 90 0)))) (cN 91 (cN 90 (cL 90 (o_iload 91 1)) (cL 91 (o_push 92 0))) (cN 92 (cL 92 (o_callV 95 8 2 tX10_of 0 0)) (cL 95 (o_iast 96))))) (cN 102 (cN 97 (cN 96 (cL 96 (o_aload 97 0)) (cL 97 (o_getf 100 8 0))) (cN 100 (cL 100 (o_push 102 84)) (cL 102 (o_aload 103 0)))) (cN 104 (cN 103 (cL 103 (o_iload 104 1)) (cL 104 (o_push 105 1))) (cN 105 (cL 105 (o_callV 108 8 2 tX10_of 0 0)) (cL 108 (o_iast 109)))))))) (cN 160 (cN 134 (cN 118 (cN 113 (cN 109 (cL 109 (o_aload 110 0)) (cN 110 (cL 110 (o_getf 113 8 0)) (cL 113 (o_push 115 85)))) (cN 116 (cN 115 (cL 115 (o_aload 116 0)) (cL 116 (o_iload 117 1))) (cN 117 (cL 117 (o_push 118 2)) (cL 118 (o_callV 121 8 2 tX10_of 0 0))))) (cN 126 (cN 122 (cN 121 (cL 121 (o_iast 122)) (cL 122 (o_aload 123 0))) (cN 123 (cL 123 (o_getf 126 8 0)) (cL 126 (o_push 128 86)))) (cN 129 (cN 128 (cL 128 (o_aload 129 0)) (cL 129 (o_getf 132 8 0))) (cN 132 (cL 132 (o_push 134 6)) (cL 134 (o_iald 135)))))) (cN 147 (cN 140 (cN 136 (cN 135 (cL 135 (o_iast 136)) (cL 136 (o_aload 137 0))) (cN 137 (cL 137 (o_getf 140 8 0)) (cL 140 (o_push 142 87)))) (cN 143 (cN 142 (cL 142 (o_iload 143 2)) (cL 143 (o_if_eq 150 146))) (cN 146 (cL 146 (o_push 147 1)) (cL 147 (o_goto 151))))) (cN 153 (cN 151 (cN 150 (cL 150 (o_push 151 0)) (cL 151 (o_iast 152))) (cN 152 (cL 152 (o_aload 153 0)) (cL 153 (o_getf 156 8 0)))) (cN 158 (cN 156 (cL 156 (o_push 158 22)) (cL 158 (o_dup2 159))) (cN 159 (cL 159 (o_iald 160)) (cL 160 (o_aload 161 0))))))) (cN 186 (cN 173 (cN 166 (cN 161 (cL 161 (o_getf 164 8 0)) (cN 164 (cL 164 (o_push 166 22)) (cL 166 (o_iald 167)))) (cN 169 (cN 167 (cL 167 (o_push 169 10)) (cL 169 (o_icmp_ge 176 172))) (cN 172 (cL 172 (o_push 173 1)) (cL 173 (o_goto 177))))) (cN 179 (cN 177 (cN 176 (cL 176 (o_push 177 0)) (cL 177 (o_iadd 178))) (cN 178 (cL 178 (o_iast 179)) (cL 179 (o_aload 180 0)))) (cN 183 (cN 180 (cL 180 (o_getf 183 8 0)) (cL 183 (o_push 185 8))) (cN 185 (cL 185 (o_dup2 186)) (cL 186 (o_iald 187)))))) (cN 197 (cN 190 (cN 188 (cN 187 (cL 187 (o_push 188 1)) (cL 188 (o_iadd 189))) (cN 189 (cL 189 (o_iast 190)) (cL 190 (o_aload 191 0)))) (cN 194 (cN 191 (cL 191 (o_getf 194 8 0)) (cL 194 (o_push 196 9))) (cN 196 (cL 196 (o_dup2 197)) (cL 197 (o_iald 198))))) (cN 203 (cN 199 (cN 198 (cL 198 (o_iload 199 2)) (cL 199 (o_if_eq 206 202))) (cN 202 (cL 202 (o_push 203 1)) (cL 203 (o_goto 207)))) (cN 207 (cN 206 (cL 206 (o_push 207 0)) (cL 207 (o_iadd 208))) (cN 208 (cL 208 (o_iast 209)) (cL 209 (o_vret))))))))
theorem sX10_logs : ∀ pc, Snd tX10_logs G1 pc (kX10_logs pc) := s_N (s_N (s_N (s_N (s_N (s_N (s_L (s_aload_n dX10_logs_0 rfl)) (s_N (s_L (s_aload_n dX10_logs_1 rfl)) (s_L (s_iload_n dX10_logs_2 rfl)))) (s_N (s_N (s_L (s_iconst dX10_logs_3 (by decide +kernel))) (s_L (s_callV (d' := tX10_of) (mc := 0) (ms := 0) ok_8 cc_X10_logs_X10_of qw_1046 qw_1048 qw_34 dX10_logs_4))) (s_N (s_L (s_aload_n dX10_logs_7 rfl)) (s_L (s_getf ok_8 (k := 8) (by decide) dX10_logs_8 qw_980))))) (s_N (s_N (s_N (s_L (s_o_icmp_ne dX10_logs_11 (by decide))) (s_L (s_aload_n dX10_logs_14 rfl))) (s_N (s_L (s_getf ok_8 (k := 0) (by decide) dX10_logs_15 qw_972)) (s_L (s_bipush dX10_logs_18 (by decide +kernel))))) (s_N (s_N (s_L (s_iald dX10_logs_20)) (s_L (s_o_goto dX10_logs_21 (by decide)))) (s_N (s_L (s_aload_n dX10_logs_24 rfl)) (s_L (s_getf ok_8 (k := 9) (by decide) dX10_logs_25 qw_981)))))) (s_N (s_N (s_N (s_N (s_L (s_puti ok_8 (k := 9) (by decide) rfl (Or.inl rfl) dX10_logs_28 qw_981)) (s_L (s_sipush dX10_logs_31 (by decide +kernel)))) (s_N (s_L (s_istore_n dX10_logs_34 rfl (by decide))) (s_L (s_iload_n dX10_logs_35 rfl)))) (s_N (s_N (s_L (s_bipush dX10_logs_36 (by decide +kernel))) (s_L (s_o_icmp_lt dX10_logs_38 (by decide)))) (s_N (s_L (s_aload_n dX10_logs_41 rfl)) (s_L (s_getf ok_8 (k := 0) (by decide) dX10_logs_42 qw_972))))) (s_N (s_N (s_N (s_L (s_iload_n dX10_logs_45 rfl)) (s_L (s_aload_n dX10_logs_46 rfl))) (s_N (s_L (s_getf ok_8 (k := 0) (by decide) dX10_logs_47 qw_972)) (s_L (s_iload_n dX10_logs_50 rfl)))) (s_N (s_N (s_L (s_iconst dX10_logs_51 (by decide +kernel))) (s_L (s_o_isub dX10_logs_52))) (s_N (s_L (s_iald dX10_logs_53)) (s_L (s_iast dX10_logs_54))))))) (s_N (s_N (s_N (s_N (s_L (s_iinc (v := (-1)) dX10_logs_55 (by decide +kernel) (by decide))) (s_N (s_L (s_o_goto dX10_logs_58 (by decide))) (s_L (s_aload_n dX10_logs_61 rfl)))) (s_N (s_N (s_L (s_getf ok_8 (k := 0) (by decide) dX10_logs_62 qw_972)) (s_L (s_bipush dX10_logs_65 (by decide +kernel)))) (s_N (s_L (s_iald dX10_logs_67)) (s_L (s_aload_n dX10_logs_68 rfl))))) (s_N (s_N (s_N (s_L (s_iload_n dX10_logs_69 rfl)) (s_L (s_iconst dX10_logs_70 (by decide +kernel)))) (s_N (s_L (s_callV (d' := tX10_of) (mc := 0) (ms := 0) ok_8 cc_X10_logs_X10_of qw_1046 qw_1048 qw_34 dX10_logs_71)) (s_L (s_o_icmp_le dX10_logs_74 (by decide))))) (s_N (s_N (s_L (s_iconst dX10_logs_77 (by decide +kernel))) (s_L (s_o_goto dX10_logs_78 (by decide)))) (s_N (s_L (s_iconst dX10_logs_81 (by decide +kernel))) (s_L (s_istore_n dX10_logs_82 rfl (by decide))))))) (s_N (s_N (s_N (s_N (s_L (s_aload_n dX10_logs_83 rfl)) (s_L (s_getf ok_8 (k := 0) (by decide) dX10_logs_84 qw_972))) (s_N (s_L (s_bipush dX10_logs_87 (by decide +kernel))) (s_L (s_aload_n dX10_logs_89 rfl)))) (s_N (s_N (s_L (s_iload_n dX10_logs_90 rfl)) (s_L (s_iconst dX10_logs_91 (by decide +kernel)))) (s_N (s_L (s_callV (d' := tX10_of) (mc := 0) (ms := 0) ok_8 cc_X10_logs_X10_of qw_1046 qw_1048 qw_34 dX10_logs_92)) (s_L (s_iast dX10_logs_95))))) (s_N (s_N (s_N (s_L (s_aload_n dX10_logs_96 rfl)) (s_L (s_getf ok_8 (k := 0) (by decide) dX10_logs_97 qw_972))) (s_N (s_L (s_bipush dX10_logs_100 (by decide +kernel))) (s_L (s_aload_n dX10_logs_102 rfl)))) (s_N (s_N (s_L (s_iload_n dX10_logs_103 rfl)) (s_L (s_iconst dX10_logs_104 (by decide +kernel)))) (s_N (s_L (s_callV (d' := tX10_of) (mc := 0) (ms := 0) ok_8 cc_X10_logs_X10_of qw_1046 qw_1048 qw_34 dX10_logs_105)) (s_L (s_iast dX10_logs_108)))))))) (s_N (s_N (s_N (s_N (s_N (s_L (s_aload_n dX10_logs_109 rfl)) (s_N (s_L (s_getf ok_8 (k := 0) (by decide) dX10_logs_110 qw_972)) (s_L (s_bipush dX10_logs_113 (by decide +kernel))))) (s_N (s_N (s_L (s_aload_n dX10_logs_115 rfl)) (s_L (s_iload_n dX10_logs_116 rfl))) (s_N (s_L (s_iconst dX10_logs_117 (by decide +kernel))) (s_L (s_callV (d' := tX10_of) (mc := 0) (ms := 0) ok_8 cc_X10_logs_X10_of qw_1046 qw_1048 qw_34 dX10_logs_118))))) (s_N (s_N (s_N (s_L (s_iast dX10_logs_121)) (s_L (s_aload_n dX10_logs_122 rfl))) (s_N (s_L (s_getf ok_8 (k := 0) (by decide) dX10_logs_123 qw_972)) (s_L (s_bipush dX10_logs_126 (by decide +kernel))))) (s_N (s_N (s_L (s_aload_n dX10_logs_128 rfl)) (s_L (s_getf ok_8 (k := 0) (by decide) dX10_logs_129 qw_972))) (s_N (s_L (s_bipush dX10_logs_132 (by decide +kernel))) (s_L (s_iald dX10_logs_134)))))) (s_N (s_N (s_N (s_N (s_L (s_iast dX10_logs_135)) (s_L (s_aload_n dX10_logs_136 rfl))) (s_N (s_L (s_getf ok_8 (k := 0) (by decide) dX10_logs_137 qw_972)) (s_L (s_bipush dX10_logs_140 (by decide +kernel))))) (s_N (s_N (s_L (s_iload_n dX10_logs_142 rfl)) (s_L (s_o_if_eq dX10_logs_143 (by decide)))) (s_N (s_L (s_iconst dX10_logs_146 (by decide +kernel))) (s_L (s_o_goto dX10_logs_147 (by decide)))))) (s_N (s_N (s_N (s_L (s_iconst dX10_logs_150 (by decide +kernel))) (s_L (s_iast dX10_logs_151))) (s_N (s_L (s_aload_n dX10_logs_152 rfl)) (s_L (s_getf ok_8 (k := 0) (by decide) dX10_logs_153 qw_972)))) (s_N (s_N (s_L (s_bipush dX10_logs_156 (by decide +kernel))) (s_L (s_o_dup2 dX10_logs_158))) (s_N (s_L (s_iald dX10_logs_159)) (s_L (s_aload_n dX10_logs_160 rfl))))))) (s_N (s_N (s_N (s_N (s_L (s_getf ok_8 (k := 0) (by decide) dX10_logs_161 qw_972)) (s_N (s_L (s_bipush dX10_logs_164 (by decide +kernel))) (s_L (s_iald dX10_logs_166)))) (s_N (s_N (s_L (s_bipush dX10_logs_167 (by decide +kernel))) (s_L (s_o_icmp_ge dX10_logs_169 (by decide)))) (s_N (s_L (s_iconst dX10_logs_172 (by decide +kernel))) (s_L (s_o_goto dX10_logs_173 (by decide)))))) (s_N (s_N (s_N (s_L (s_iconst dX10_logs_176 (by decide +kernel))) (s_L (s_o_iadd dX10_logs_177))) (s_N (s_L (s_iast dX10_logs_178)) (s_L (s_aload_n dX10_logs_179 rfl)))) (s_N (s_N (s_L (s_getf ok_8 (k := 0) (by decide) dX10_logs_180 qw_972)) (s_L (s_bipush dX10_logs_183 (by decide +kernel)))) (s_N (s_L (s_o_dup2 dX10_logs_185)) (s_L (s_iald dX10_logs_186)))))) (s_N (s_N (s_N (s_N (s_L (s_iconst dX10_logs_187 (by decide +kernel))) (s_L (s_o_iadd dX10_logs_188))) (s_N (s_L (s_iast dX10_logs_189)) (s_L (s_aload_n dX10_logs_190 rfl)))) (s_N (s_N (s_L (s_getf ok_8 (k := 0) (by decide) dX10_logs_191 qw_972)) (s_L (s_bipush dX10_logs_194 (by decide +kernel)))) (s_N (s_L (s_o_dup2 dX10_logs_196)) (s_L (s_iald dX10_logs_197))))) (s_N (s_N (s_N (s_L (s_iload_n dX10_logs_198 rfl)) (s_L (s_o_if_eq dX10_logs_199 (by decide)))) (s_N (s_L (s_iconst dX10_logs_202 (by decide +kernel))) (s_L (s_o_goto dX10_logs_203 (by decide))))) (s_N (s_N (s_L (s_iconst dX10_logs_206 (by decide +kernel))) (s_L (s_o_iadd dX10_logs_207))) (s_N (s_L (s_iast dX10_logs_208)) (s_L (s_vret rfl dX10_logs_209))))))))
/-! PlateArmModel.reads -/
theorem dX10_reads_0 : decode cX10_reads 0 = .ok (.iconst 0, 1) := by decide +kernel
theorem dX10_reads_1 : decode cX10_reads 1 = .ok (.istore_n 1, 1) := by decide +kernel
theorem dX10_reads_2 : decode cX10_reads 2 = .ok (.iload_n 1, 1) := by decide +kernel
theorem dX10_reads_3 : decode cX10_reads 3 = .ok (.aload_n 0, 1) := by decide +kernel
theorem dX10_reads_4 : decode cX10_reads 4 = .ok (.getfield 7, 3) := by decide +kernel
theorem dX10_reads_7 : decode cX10_reads 7 = .ok (.bipush 21, 2) := by decide +kernel
theorem dX10_reads_9 : decode cX10_reads 9 = .ok (.iaload, 1) := by decide +kernel
theorem dX10_reads_10 : decode cX10_reads 10 = .ok (.if_icmp .ge 61, 3) := by decide +kernel
theorem dX10_reads_13 : decode cX10_reads 13 = .ok (.aload_n 0, 1) := by decide +kernel
theorem dX10_reads_14 : decode cX10_reads 14 = .ok (.iload_n 1, 1) := by decide +kernel
theorem dX10_reads_15 : decode cX10_reads 15 = .ok (.iconst 1, 1) := by decide +kernel
theorem dX10_reads_16 : decode cX10_reads 16 = .ok (.invokevirtual 39, 3) := by decide +kernel
theorem dX10_reads_19 : decode cX10_reads 19 = .ok (.aload_n 0, 1) := by decide +kernel
theorem dX10_reads_20 : decode cX10_reads 20 = .ok (.getfield 7, 3) := by decide +kernel
theorem dX10_reads_23 : decode cX10_reads 23 = .ok (.bipush 16, 2) := by decide +kernel
theorem dX10_reads_25 : decode cX10_reads 25 = .ok (.iaload, 1) := by decide +kernel
theorem dX10_reads_26 : decode cX10_reads 26 = .ok (.if_icmp .ne 39, 3) := by decide +kernel
theorem dX10_reads_29 : decode cX10_reads 29 = .ok (.aload_n 0, 1) := by decide +kernel
theorem dX10_reads_30 : decode cX10_reads 30 = .ok (.iload_n 1, 1) := by decide +kernel
theorem dX10_reads_31 : decode cX10_reads 31 = .ok (.iconst 2, 1) := by decide +kernel
theorem dX10_reads_32 : decode cX10_reads 32 = .ok (.invokevirtual 39, 3) := by decide +kernel
theorem dX10_reads_35 : decode cX10_reads 35 = .ok (.aload_n 0, 1) := by decide +kernel
theorem dX10_reads_36 : decode cX10_reads 36 = .ok (.getfield 7, 3) := by decide +kernel
theorem dX10_reads_39 : decode cX10_reads 39 = .ok (.bipush 6, 2) := by decide +kernel
theorem dX10_reads_41 : decode cX10_reads 41 = .ok (.iaload, 1) := by decide +kernel
theorem dX10_reads_42 : decode cX10_reads 42 = .ok (.aload_n 0, 1) := by decide +kernel
theorem dX10_reads_43 : decode cX10_reads 43 = .ok (.getfield 7, 3) := by decide +kernel
theorem dX10_reads_46 : decode cX10_reads 46 = .ok (.iconst 1, 1) := by decide +kernel
theorem dX10_reads_47 : decode cX10_reads 47 = .ok (.iaload, 1) := by decide +kernel
theorem dX10_reads_48 : decode cX10_reads 48 = .ok (.irem, 1) := by decide +kernel
theorem dX10_reads_49 : decode cX10_reads 49 = .ok (.if_icmp .ne 16, 3) := by decide +kernel
theorem dX10_reads_52 : decode cX10_reads 52 = .ok (.aload_n 0, 1) := by decide +kernel
theorem dX10_reads_53 : decode cX10_reads 53 = .ok (.iload_n 1, 1) := by decide +kernel
theorem dX10_reads_54 : decode cX10_reads 54 = .ok (.invokevirtual 71, 3) := by decide +kernel
theorem dX10_reads_57 : decode cX10_reads 57 = .ok (.aload_n 0, 1) := by decide +kernel
theorem dX10_reads_58 : decode cX10_reads 58 = .ok (.iload_n 1, 1) := by decide +kernel
theorem dX10_reads_59 : decode cX10_reads 59 = .ok (.invokevirtual 75, 3) := by decide +kernel
theorem dX10_reads_62 : decode cX10_reads 62 = .ok (.goto (-60), 3) := by decide +kernel
theorem dX10_reads_65 : decode cX10_reads 65 = .ok (.iinc 1 1, 3) := by decide +kernel
theorem dX10_reads_68 : decode cX10_reads 68 = .ok (.goto (-66), 3) := by decide +kernel
theorem dX10_reads_71 : decode cX10_reads 71 = .ok (.return_, 1) := by decide +kernel
theorem cc_X10_reads_X10_of : CallC tX10_reads tX10_of 2 := ⟨by decide +kernel, by decide +kernel, by decide +kernel, by decide, by decide, qw_80, qw_1049⟩
theorem cc_X10_reads_X10_logs : CallC tX10_reads tX10_logs 1 := ⟨by decide +kernel, by decide +kernel, by decide +kernel, by decide, by decide, qw_80, qw_1108⟩
theorem cc_X10_reads_X10_takes : CallC tX10_reads tX10_takes 1 := ⟨by decide +kernel, by decide +kernel, by decide +kernel, by decide, by decide, qw_80, qw_1053⟩
def kX10_reads : Nat → WOp := cN 31 (cN 14 (cN 4 (cN 1 (cN 0 (cL 0 (o_push 1 0)) (cL 1 (o_istore 2 1))) (cN 2 (cL 2 (o_iload 3 1)) (cN 3 (cL 3 (o_aload 4 0)) (cL 4 (o_getf 7 8 0))))) (cN 9 (cN 7 (cL 7 (o_push 9 21)) (cL 9 (o_iald 10))) (cN 10 (cL 10 (o_icmp_ge 71 13)) (cN 13 (cL 13 (o_aload 14 0)) (cL 14 (o_iload 15 1)))))) (cN 23 (cN 16 (cN 15 (cL 15 (o_push 16 1)) (cL 16 (o_callV 19 8 2 tX10_of 0 0))) (cN 19 (cL 19 (o_aload 20 0)) (cN 20 (cL 20 (o_getf 23 8 0)) (cL 23 (o_push 25 16))))) (cN 26 (cN 25 (cL 25 (o_iald 26)) (cL 26 (o_icmp_ne 65 29))) (cN 29 (cL 29 (o_aload 30 0)) (cN 30 (cL 30 (o_iload 31 1)) (cL 31 (o_push 32 2))))))) (cN 48 (cN 41 (cN 35 (cN 32 (cL 32 (o_callV 35 8 2 tX10_of 0 0)) (cL 35 (o_aload 36 0))) (cN 36 (cL 36 (o_getf 39 8 0)) (cN 39 (cL 39 (o_push 41 6)) (cL 41 (o_iald 42))))) (cN 43 (cN 42 (cL 42 (o_aload 43 0)) (cL 43 (o_getf 46 8 0))) (cN 46 (cL 46 (o_push 47 1)) (cN 47 (cL 47 (o_iald 48)) (cL 48 (o_irem 49)))))) (cN 57 (cN 52 (cN 49 (cL 49 (o_icmp_ne 65 52)) (cL 52 (o_aload 53 0))) (cN 53 (cL 53 (o_iload 54 1)) (cN 54 (cL 54 (o_callV 57 8 1 tX10_logs 0 0)) (cL 57 (o_aload 58 0))))) (cN 62 (cN 58 (cL 58 (o_iload 59 1)) (cN 59 (cL 59 (o_callV 62 8 1 tX10_takes 0 0)) (cL 62 (o_goto 2)))) (cN 65 (cL 65 (o_iinc 68 1 1)) (cN 68 (cL 68 (o_goto 2)) (cL 71 (o_vret)))))))
theorem sX10_reads : ∀ pc, Snd tX10_reads G1 pc (kX10_reads pc) := s_N (s_N (s_N (s_N (s_N (s_L (s_iconst dX10_reads_0 (by decide +kernel))) (s_L (s_istore_n dX10_reads_1 rfl (by decide)))) (s_N (s_L (s_iload_n dX10_reads_2 rfl)) (s_N (s_L (s_aload_n dX10_reads_3 rfl)) (s_L (s_getf ok_8 (k := 0) (by decide) dX10_reads_4 qw_972))))) (s_N (s_N (s_L (s_bipush dX10_reads_7 (by decide +kernel))) (s_L (s_iald dX10_reads_9))) (s_N (s_L (s_o_icmp_ge dX10_reads_10 (by decide))) (s_N (s_L (s_aload_n dX10_reads_13 rfl)) (s_L (s_iload_n dX10_reads_14 rfl)))))) (s_N (s_N (s_N (s_L (s_iconst dX10_reads_15 (by decide +kernel))) (s_L (s_callV (d' := tX10_of) (mc := 0) (ms := 0) ok_8 cc_X10_reads_X10_of qw_1046 qw_1048 qw_34 dX10_reads_16))) (s_N (s_L (s_aload_n dX10_reads_19 rfl)) (s_N (s_L (s_getf ok_8 (k := 0) (by decide) dX10_reads_20 qw_972)) (s_L (s_bipush dX10_reads_23 (by decide +kernel)))))) (s_N (s_N (s_L (s_iald dX10_reads_25)) (s_L (s_o_icmp_ne dX10_reads_26 (by decide)))) (s_N (s_L (s_aload_n dX10_reads_29 rfl)) (s_N (s_L (s_iload_n dX10_reads_30 rfl)) (s_L (s_iconst dX10_reads_31 (by decide +kernel)))))))) (s_N (s_N (s_N (s_N (s_L (s_callV (d' := tX10_of) (mc := 0) (ms := 0) ok_8 cc_X10_reads_X10_of qw_1046 qw_1048 qw_34 dX10_reads_32)) (s_L (s_aload_n dX10_reads_35 rfl))) (s_N (s_L (s_getf ok_8 (k := 0) (by decide) dX10_reads_36 qw_972)) (s_N (s_L (s_bipush dX10_reads_39 (by decide +kernel))) (s_L (s_iald dX10_reads_41))))) (s_N (s_N (s_L (s_aload_n dX10_reads_42 rfl)) (s_L (s_getf ok_8 (k := 0) (by decide) dX10_reads_43 qw_972))) (s_N (s_L (s_iconst dX10_reads_46 (by decide +kernel))) (s_N (s_L (s_iald dX10_reads_47)) (s_L (s_o_irem dX10_reads_48)))))) (s_N (s_N (s_N (s_L (s_o_icmp_ne dX10_reads_49 (by decide))) (s_L (s_aload_n dX10_reads_52 rfl))) (s_N (s_L (s_iload_n dX10_reads_53 rfl)) (s_N (s_L (s_callV (d' := tX10_logs) (mc := 0) (ms := 0) ok_8 cc_X10_reads_X10_logs qw_1105 qw_1107 qw_46 dX10_reads_54)) (s_L (s_aload_n dX10_reads_57 rfl))))) (s_N (s_N (s_L (s_iload_n dX10_reads_58 rfl)) (s_N (s_L (s_callV (d' := tX10_takes) (mc := 0) (ms := 0) ok_8 cc_X10_reads_X10_takes qw_1050 qw_1052 qw_35 dX10_reads_59)) (s_L (s_o_goto dX10_reads_62 (by decide))))) (s_N (s_L (s_iinc (v := 1) dX10_reads_65 (by decide +kernel) (by decide))) (s_N (s_L (s_o_goto dX10_reads_68 (by decide))) (s_L (s_vret rfl dX10_reads_71)))))))
/-! PlateArmModel.givesUp -/
theorem dX10_givesUp_0 : decode cX10_givesUp 0 = .ok (.iconst 0, 1) := by decide +kernel
theorem dX10_givesUp_1 : decode cX10_givesUp 1 = .ok (.istore_n 1, 1) := by decide +kernel
theorem dX10_givesUp_2 : decode cX10_givesUp 2 = .ok (.iload_n 1, 1) := by decide +kernel
theorem dX10_givesUp_3 : decode cX10_givesUp 3 = .ok (.aload_n 0, 1) := by decide +kernel
theorem dX10_givesUp_4 : decode cX10_givesUp 4 = .ok (.getfield 7, 3) := by decide +kernel
theorem dX10_givesUp_7 : decode cX10_givesUp 7 = .ok (.bipush 21, 2) := by decide +kernel
theorem dX10_givesUp_9 : decode cX10_givesUp 9 = .ok (.iaload, 1) := by decide +kernel
theorem dX10_givesUp_10 : decode cX10_givesUp 10 = .ok (.if_icmp .ge 60, 3) := by decide +kernel
theorem dX10_givesUp_13 : decode cX10_givesUp 13 = .ok (.aload_n 0, 1) := by decide +kernel
theorem dX10_givesUp_14 : decode cX10_givesUp 14 = .ok (.getfield 7, 3) := by decide +kernel
theorem dX10_givesUp_17 : decode cX10_givesUp 17 = .ok (.iconst 5, 1) := by decide +kernel
theorem dX10_givesUp_18 : decode cX10_givesUp 18 = .ok (.iaload, 1) := by decide +kernel
theorem dX10_givesUp_19 : decode cX10_givesUp 19 = .ok (.ifCond .le 51, 3) := by decide +kernel
theorem dX10_givesUp_22 : decode cX10_givesUp 22 = .ok (.aload_n 0, 1) := by decide +kernel
theorem dX10_givesUp_23 : decode cX10_givesUp 23 = .ok (.iload_n 1, 1) := by decide +kernel
theorem dX10_givesUp_24 : decode cX10_givesUp 24 = .ok (.iconst 3, 1) := by decide +kernel
theorem dX10_givesUp_25 : decode cX10_givesUp 25 = .ok (.invokevirtual 39, 3) := by decide +kernel
theorem dX10_givesUp_28 : decode cX10_givesUp 28 = .ok (.aload_n 0, 1) := by decide +kernel
theorem dX10_givesUp_29 : decode cX10_givesUp 29 = .ok (.getfield 7, 3) := by decide +kernel
theorem dX10_givesUp_32 : decode cX10_givesUp 32 = .ok (.iconst 5, 1) := by decide +kernel
theorem dX10_givesUp_33 : decode cX10_givesUp 33 = .ok (.iaload, 1) := by decide +kernel
theorem dX10_givesUp_34 : decode cX10_givesUp 34 = .ok (.iadd, 1) := by decide +kernel
theorem dX10_givesUp_35 : decode cX10_givesUp 35 = .ok (.aload_n 0, 1) := by decide +kernel
theorem dX10_givesUp_36 : decode cX10_givesUp 36 = .ok (.getfield 7, 3) := by decide +kernel
theorem dX10_givesUp_39 : decode cX10_givesUp 39 = .ok (.bipush 6, 2) := by decide +kernel
theorem dX10_givesUp_41 : decode cX10_givesUp 41 = .ok (.iaload, 1) := by decide +kernel
theorem dX10_givesUp_42 : decode cX10_givesUp 42 = .ok (.if_icmp .ge 22, 3) := by decide +kernel
theorem dX10_givesUp_45 : decode cX10_givesUp 45 = .ok (.aload_n 0, 1) := by decide +kernel
theorem dX10_givesUp_46 : decode cX10_givesUp 46 = .ok (.iload_n 1, 1) := by decide +kernel
theorem dX10_givesUp_47 : decode cX10_givesUp 47 = .ok (.invokevirtual 75, 3) := by decide +kernel
theorem dX10_givesUp_50 : decode cX10_givesUp 50 = .ok (.aload_n 0, 1) := by decide +kernel
theorem dX10_givesUp_51 : decode cX10_givesUp 51 = .ok (.getfield 7, 3) := by decide +kernel
theorem dX10_givesUp_54 : decode cX10_givesUp 54 = .ok (.bipush 10, 2) := by decide +kernel
theorem dX10_givesUp_56 : decode cX10_givesUp 56 = .ok (.dup2, 1) := by decide +kernel
theorem dX10_givesUp_57 : decode cX10_givesUp 57 = .ok (.iaload, 1) := by decide +kernel
theorem dX10_givesUp_58 : decode cX10_givesUp 58 = .ok (.iconst 1, 1) := by decide +kernel
theorem dX10_givesUp_59 : decode cX10_givesUp 59 = .ok (.iadd, 1) := by decide +kernel
theorem dX10_givesUp_60 : decode cX10_givesUp 60 = .ok (.iastore, 1) := by decide +kernel
theorem dX10_givesUp_61 : decode cX10_givesUp 61 = .ok (.goto (-59), 3) := by decide +kernel
theorem dX10_givesUp_64 : decode cX10_givesUp 64 = .ok (.iinc 1 1, 3) := by decide +kernel
theorem dX10_givesUp_67 : decode cX10_givesUp 67 = .ok (.goto (-65), 3) := by decide +kernel
theorem dX10_givesUp_70 : decode cX10_givesUp 70 = .ok (.return_, 1) := by decide +kernel
theorem cc_X10_givesUp_X10_of : CallC tX10_givesUp tX10_of 2 := ⟨by decide +kernel, by decide +kernel, by decide +kernel, by decide, by decide, qw_80, qw_1049⟩
theorem cc_X10_givesUp_X10_takes : CallC tX10_givesUp tX10_takes 1 := ⟨by decide +kernel, by decide +kernel, by decide +kernel, by decide, by decide, qw_80, qw_1053⟩
def kX10_givesUp : Nat → WOp := cN 33 (cN 14 (cN 4 (cN 1 (cN 0 (cL 0 (o_push 1 0)) (cL 1 (o_istore 2 1))) (cN 2 (cL 2 (o_iload 3 1)) (cN 3 (cL 3 (o_aload 4 0)) (cL 4 (o_getf 7 8 0))))) (cN 9 (cN 7 (cL 7 (o_push 9 21)) (cL 9 (o_iald 10))) (cN 10 (cL 10 (o_icmp_ge 70 13)) (cN 13 (cL 13 (o_aload 14 0)) (cL 14 (o_getf 17 8 0)))))) (cN 23 (cN 18 (cN 17 (cL 17 (o_push 18 5)) (cL 18 (o_iald 19))) (cN 19 (cL 19 (o_if_le 70 22)) (cN 22 (cL 22 (o_aload 23 0)) (cL 23 (o_iload 24 1))))) (cN 28 (cN 24 (cL 24 (o_push 25 3)) (cN 25 (cL 25 (o_callV 28 8 2 tX10_of 0 0)) (cL 28 (o_aload 29 0)))) (cN 29 (cL 29 (o_getf 32 8 0)) (cN 32 (cL 32 (o_push 33 5)) (cL 33 (o_iald 34))))))) (cN 50 (cN 41 (cN 35 (cN 34 (cL 34 (o_iadd 35)) (cL 35 (o_aload 36 0))) (cN 36 (cL 36 (o_getf 39 8 0)) (cN 39 (cL 39 (o_push 41 6)) (cL 41 (o_iald 42))))) (cN 45 (cN 42 (cL 42 (o_icmp_ge 64 45)) (cL 45 (o_aload 46 0))) (cN 46 (cL 46 (o_iload 47 1)) (cN 47 (cL 47 (o_callV 50 8 1 tX10_takes 0 0)) (cL 50 (o_aload 51 0)))))) (cN 58 (cN 54 (cN 51 (cL 51 (o_getf 54 8 0)) (cL 54 (o_push 56 10))) (cN 56 (cL 56 (o_dup2 57)) (cN 57 (cL 57 (o_iald 58)) (cL 58 (o_push 59 1))))) (cN 61 (cN 59 (cL 59 (o_iadd 60)) (cN 60 (cL 60 (o_iast 61)) (cL 61 (o_goto 2)))) (cN 64 (cL 64 (o_iinc 67 1 1)) (cN 67 (cL 67 (o_goto 2)) (cL 70 (o_vret)))))))
theorem sX10_givesUp : ∀ pc, Snd tX10_givesUp G1 pc (kX10_givesUp pc) := s_N (s_N (s_N (s_N (s_N (s_L (s_iconst dX10_givesUp_0 (by decide +kernel))) (s_L (s_istore_n dX10_givesUp_1 rfl (by decide)))) (s_N (s_L (s_iload_n dX10_givesUp_2 rfl)) (s_N (s_L (s_aload_n dX10_givesUp_3 rfl)) (s_L (s_getf ok_8 (k := 0) (by decide) dX10_givesUp_4 qw_972))))) (s_N (s_N (s_L (s_bipush dX10_givesUp_7 (by decide +kernel))) (s_L (s_iald dX10_givesUp_9))) (s_N (s_L (s_o_icmp_ge dX10_givesUp_10 (by decide))) (s_N (s_L (s_aload_n dX10_givesUp_13 rfl)) (s_L (s_getf ok_8 (k := 0) (by decide) dX10_givesUp_14 qw_972)))))) (s_N (s_N (s_N (s_L (s_iconst dX10_givesUp_17 (by decide +kernel))) (s_L (s_iald dX10_givesUp_18))) (s_N (s_L (s_o_if_le dX10_givesUp_19 (by decide))) (s_N (s_L (s_aload_n dX10_givesUp_22 rfl)) (s_L (s_iload_n dX10_givesUp_23 rfl))))) (s_N (s_N (s_L (s_iconst dX10_givesUp_24 (by decide +kernel))) (s_N (s_L (s_callV (d' := tX10_of) (mc := 0) (ms := 0) ok_8 cc_X10_givesUp_X10_of qw_1046 qw_1048 qw_34 dX10_givesUp_25)) (s_L (s_aload_n dX10_givesUp_28 rfl)))) (s_N (s_L (s_getf ok_8 (k := 0) (by decide) dX10_givesUp_29 qw_972)) (s_N (s_L (s_iconst dX10_givesUp_32 (by decide +kernel))) (s_L (s_iald dX10_givesUp_33))))))) (s_N (s_N (s_N (s_N (s_L (s_o_iadd dX10_givesUp_34)) (s_L (s_aload_n dX10_givesUp_35 rfl))) (s_N (s_L (s_getf ok_8 (k := 0) (by decide) dX10_givesUp_36 qw_972)) (s_N (s_L (s_bipush dX10_givesUp_39 (by decide +kernel))) (s_L (s_iald dX10_givesUp_41))))) (s_N (s_N (s_L (s_o_icmp_ge dX10_givesUp_42 (by decide))) (s_L (s_aload_n dX10_givesUp_45 rfl))) (s_N (s_L (s_iload_n dX10_givesUp_46 rfl)) (s_N (s_L (s_callV (d' := tX10_takes) (mc := 0) (ms := 0) ok_8 cc_X10_givesUp_X10_takes qw_1050 qw_1052 qw_35 dX10_givesUp_47)) (s_L (s_aload_n dX10_givesUp_50 rfl)))))) (s_N (s_N (s_N (s_L (s_getf ok_8 (k := 0) (by decide) dX10_givesUp_51 qw_972)) (s_L (s_bipush dX10_givesUp_54 (by decide +kernel)))) (s_N (s_L (s_o_dup2 dX10_givesUp_56)) (s_N (s_L (s_iald dX10_givesUp_57)) (s_L (s_iconst dX10_givesUp_58 (by decide +kernel)))))) (s_N (s_N (s_L (s_o_iadd dX10_givesUp_59)) (s_N (s_L (s_iast dX10_givesUp_60)) (s_L (s_o_goto dX10_givesUp_61 (by decide))))) (s_N (s_L (s_iinc (v := 1) dX10_givesUp_64 (by decide +kernel) (by decide))) (s_N (s_L (s_o_goto dX10_givesUp_67 (by decide))) (s_L (s_vret rfl dX10_givesUp_70)))))))
/-! PlateArmModel.ticks -/
theorem dX10_ticks_0 : decode cX10_ticks 0 = .ok (.aload_n 0, 1) := by decide +kernel
theorem dX10_ticks_1 : decode cX10_ticks 1 = .ok (.aload_n 0, 1) := by decide +kernel
theorem dX10_ticks_2 : decode cX10_ticks 2 = .ok (.getfield 7, 3) := by decide +kernel
theorem dX10_ticks_5 : decode cX10_ticks 5 = .ok (.iconst 2, 1) := by decide +kernel
theorem dX10_ticks_6 : decode cX10_ticks 6 = .ok (.iaload, 1) := by decide +kernel
theorem dX10_ticks_7 : decode cX10_ticks 7 = .ok (.invokevirtual 78, 3) := by decide +kernel
theorem dX10_ticks_10 : decode cX10_ticks 10 = .ok (.istore_n 1, 1) := by decide +kernel
theorem dX10_ticks_11 : decode cX10_ticks 11 = .ok (.aload_n 0, 1) := by decide +kernel
theorem dX10_ticks_12 : decode cX10_ticks 12 = .ok (.getfield 7, 3) := by decide +kernel
theorem dX10_ticks_15 : decode cX10_ticks 15 = .ok (.iconst 2, 1) := by decide +kernel
theorem dX10_ticks_16 : decode cX10_ticks 16 = .ok (.iaload, 1) := by decide +kernel
theorem dX10_ticks_17 : decode cX10_ticks 17 = .ok (.iconst 1, 1) := by decide +kernel
theorem dX10_ticks_18 : decode cX10_ticks 18 = .ok (.if_icmp .ne 39, 3) := by decide +kernel
theorem dX10_ticks_21 : decode cX10_ticks 21 = .ok (.iload_n 1, 1) := by decide +kernel
theorem dX10_ticks_22 : decode cX10_ticks 22 = .ok (.iconst (-1), 1) := by decide +kernel
theorem dX10_ticks_23 : decode cX10_ticks 23 = .ok (.if_icmp .eq 34, 3) := by decide +kernel
theorem dX10_ticks_26 : decode cX10_ticks 26 = .ok (.aload_n 0, 1) := by decide +kernel
theorem dX10_ticks_27 : decode cX10_ticks 27 = .ok (.iload_n 1, 1) := by decide +kernel
theorem dX10_ticks_28 : decode cX10_ticks 28 = .ok (.aload_n 0, 1) := by decide +kernel
theorem dX10_ticks_29 : decode cX10_ticks 29 = .ok (.getfield 7, 3) := by decide +kernel
theorem dX10_ticks_32 : decode cX10_ticks 32 = .ok (.bipush 20, 2) := by decide +kernel
theorem dX10_ticks_34 : decode cX10_ticks 34 = .ok (.iaload, 1) := by decide +kernel
theorem dX10_ticks_35 : decode cX10_ticks 35 = .ok (.invokevirtual 47, 3) := by decide +kernel
theorem dX10_ticks_38 : decode cX10_ticks 38 = .ok (.ifCond .ne 19, 3) := by decide +kernel
theorem dX10_ticks_41 : decode cX10_ticks 41 = .ok (.aload_n 0, 1) := by decide +kernel
theorem dX10_ticks_42 : decode cX10_ticks 42 = .ok (.getfield 7, 3) := by decide +kernel
theorem dX10_ticks_45 : decode cX10_ticks 45 = .ok (.bipush 20, 2) := by decide +kernel
theorem dX10_ticks_47 : decode cX10_ticks 47 = .ok (.iconst 3, 1) := by decide +kernel
theorem dX10_ticks_48 : decode cX10_ticks 48 = .ok (.aload_n 0, 1) := by decide +kernel
theorem dX10_ticks_49 : decode cX10_ticks 49 = .ok (.getfield 7, 3) := by decide +kernel
theorem dX10_ticks_52 : decode cX10_ticks 52 = .ok (.bipush 20, 2) := by decide +kernel
theorem dX10_ticks_54 : decode cX10_ticks 54 = .ok (.iaload, 1) := by decide +kernel
theorem dX10_ticks_55 : decode cX10_ticks 55 = .ok (.isub, 1) := by decide +kernel
theorem dX10_ticks_56 : decode cX10_ticks 56 = .ok (.iastore, 1) := by decide +kernel
theorem dX10_ticks_57 : decode cX10_ticks 57 = .ok (.aload_n 0, 1) := by decide +kernel
theorem dX10_ticks_58 : decode cX10_ticks 58 = .ok (.getfield 7, 3) := by decide +kernel
theorem dX10_ticks_61 : decode cX10_ticks 61 = .ok (.bipush 14, 2) := by decide +kernel
theorem dX10_ticks_63 : decode cX10_ticks 63 = .ok (.dup2, 1) := by decide +kernel
theorem dX10_ticks_64 : decode cX10_ticks 64 = .ok (.iaload, 1) := by decide +kernel
theorem dX10_ticks_65 : decode cX10_ticks 65 = .ok (.aload_n 0, 1) := by decide +kernel
theorem dX10_ticks_66 : decode cX10_ticks 66 = .ok (.getfield 7, 3) := by decide +kernel
theorem dX10_ticks_69 : decode cX10_ticks 69 = .ok (.bipush 19, 2) := by decide +kernel
theorem dX10_ticks_71 : decode cX10_ticks 71 = .ok (.iaload, 1) := by decide +kernel
theorem dX10_ticks_72 : decode cX10_ticks 72 = .ok (.iadd, 1) := by decide +kernel
theorem dX10_ticks_73 : decode cX10_ticks 73 = .ok (.iastore, 1) := by decide +kernel
theorem dX10_ticks_74 : decode cX10_ticks 74 = .ok (.aload_n 0, 1) := by decide +kernel
theorem dX10_ticks_75 : decode cX10_ticks 75 = .ok (.getfield 7, 3) := by decide +kernel
theorem dX10_ticks_78 : decode cX10_ticks 78 = .ok (.bipush 17, 2) := by decide +kernel
theorem dX10_ticks_80 : decode cX10_ticks 80 = .ok (.iaload, 1) := by decide +kernel
theorem dX10_ticks_81 : decode cX10_ticks 81 = .ok (.ifCond .ne 7, 3) := by decide +kernel
theorem dX10_ticks_84 : decode cX10_ticks 84 = .ok (.iconst 1, 1) := by decide +kernel
theorem dX10_ticks_85 : decode cX10_ticks 85 = .ok (.goto 4, 3) := by decide +kernel
theorem dX10_ticks_88 : decode cX10_ticks 88 = .ok (.iconst 0, 1) := by decide +kernel
theorem dX10_ticks_89 : decode cX10_ticks 89 = .ok (.istore_n 2, 1) := by decide +kernel
theorem dX10_ticks_90 : decode cX10_ticks 90 = .ok (.aload_n 0, 1) := by decide +kernel
theorem dX10_ticks_91 : decode cX10_ticks 91 = .ok (.iload_n 1, 1) := by decide +kernel
theorem dX10_ticks_92 : decode cX10_ticks 92 = .ok (.invokevirtual 81, 3) := by decide +kernel
theorem dX10_ticks_95 : decode cX10_ticks 95 = .ok (.iload_n 2, 1) := by decide +kernel
theorem dX10_ticks_96 : decode cX10_ticks 96 = .ok (.ifCond .eq 17, 3) := by decide +kernel
theorem dX10_ticks_99 : decode cX10_ticks 99 = .ok (.aload_n 0, 1) := by decide +kernel
theorem dX10_ticks_100 : decode cX10_ticks 100 = .ok (.getfield 7, 3) := by decide +kernel
theorem dX10_ticks_103 : decode cX10_ticks 103 = .ok (.bipush 17, 2) := by decide +kernel
theorem dX10_ticks_105 : decode cX10_ticks 105 = .ok (.iaload, 1) := by decide +kernel
theorem dX10_ticks_106 : decode cX10_ticks 106 = .ok (.ifCond .ne 7, 3) := by decide +kernel
theorem dX10_ticks_109 : decode cX10_ticks 109 = .ok (.aload_n 0, 1) := by decide +kernel
theorem dX10_ticks_110 : decode cX10_ticks 110 = .ok (.invokevirtual 84, 3) := by decide +kernel
theorem dX10_ticks_113 : decode cX10_ticks 113 = .ok (.aload_n 0, 1) := by decide +kernel
theorem dX10_ticks_114 : decode cX10_ticks 114 = .ok (.invokevirtual 87, 3) := by decide +kernel
theorem dX10_ticks_117 : decode cX10_ticks 117 = .ok (.aload_n 0, 1) := by decide +kernel
theorem dX10_ticks_118 : decode cX10_ticks 118 = .ok (.getfield 7, 3) := by decide +kernel
theorem dX10_ticks_121 : decode cX10_ticks 121 = .ok (.bipush 18, 2) := by decide +kernel
theorem dX10_ticks_123 : decode cX10_ticks 123 = .ok (.dup2, 1) := by decide +kernel
theorem dX10_ticks_124 : decode cX10_ticks 124 = .ok (.iaload, 1) := by decide +kernel
theorem dX10_ticks_125 : decode cX10_ticks 125 = .ok (.aload_n 0, 1) := by decide +kernel
theorem dX10_ticks_126 : decode cX10_ticks 126 = .ok (.getfield 7, 3) := by decide +kernel
theorem dX10_ticks_129 : decode cX10_ticks 129 = .ok (.bipush 18, 2) := by decide +kernel
theorem dX10_ticks_131 : decode cX10_ticks 131 = .ok (.iaload, 1) := by decide +kernel
theorem dX10_ticks_132 : decode cX10_ticks 132 = .ok (.ifCond .le 7, 3) := by decide +kernel
theorem dX10_ticks_135 : decode cX10_ticks 135 = .ok (.iconst 1, 1) := by decide +kernel
theorem dX10_ticks_136 : decode cX10_ticks 136 = .ok (.goto 4, 3) := by decide +kernel
theorem dX10_ticks_139 : decode cX10_ticks 139 = .ok (.iconst 0, 1) := by decide +kernel
theorem dX10_ticks_140 : decode cX10_ticks 140 = .ok (.isub, 1) := by decide +kernel
theorem dX10_ticks_141 : decode cX10_ticks 141 = .ok (.iastore, 1) := by decide +kernel
theorem dX10_ticks_142 : decode cX10_ticks 142 = .ok (.aload_n 0, 1) := by decide +kernel
theorem dX10_ticks_143 : decode cX10_ticks 143 = .ok (.getfield 7, 3) := by decide +kernel
theorem dX10_ticks_146 : decode cX10_ticks 146 = .ok (.bipush 19, 2) := by decide +kernel
theorem dX10_ticks_148 : decode cX10_ticks 148 = .ok (.aload_n 0, 1) := by decide +kernel
theorem dX10_ticks_149 : decode cX10_ticks 149 = .ok (.getfield 7, 3) := by decide +kernel
theorem dX10_ticks_152 : decode cX10_ticks 152 = .ok (.bipush 18, 2) := by decide +kernel
theorem dX10_ticks_154 : decode cX10_ticks 154 = .ok (.iaload, 1) := by decide +kernel
theorem dX10_ticks_155 : decode cX10_ticks 155 = .ok (.aload_n 0, 1) := by decide +kernel
theorem dX10_ticks_156 : decode cX10_ticks 156 = .ok (.getfield 7, 3) := by decide +kernel
theorem dX10_ticks_159 : decode cX10_ticks 159 = .ok (.iconst 4, 1) := by decide +kernel
theorem dX10_ticks_160 : decode cX10_ticks 160 = .ok (.iaload, 1) := by decide +kernel
theorem dX10_ticks_161 : decode cX10_ticks 161 = .ok (.if_icmp .lt 7, 3) := by decide +kernel
theorem dX10_ticks_164 : decode cX10_ticks 164 = .ok (.iconst 1, 1) := by decide +kernel
theorem dX10_ticks_165 : decode cX10_ticks 165 = .ok (.goto 32, 3) := by decide +kernel
theorem dX10_ticks_168 : decode cX10_ticks 168 = .ok (.aload_n 0, 1) := by decide +kernel
theorem dX10_ticks_169 : decode cX10_ticks 169 = .ok (.getfield 7, 3) := by decide +kernel
theorem dX10_ticks_172 : decode cX10_ticks 172 = .ok (.bipush 18, 2) := by decide +kernel
theorem dX10_ticks_174 : decode cX10_ticks 174 = .ok (.iaload, 1) := by decide +kernel
theorem dX10_ticks_175 : decode cX10_ticks 175 = .ok (.aload_n 0, 1) := by decide +kernel
theorem dX10_ticks_176 : decode cX10_ticks 176 = .ok (.getfield 7, 3) := by decide +kernel
theorem dX10_ticks_179 : decode cX10_ticks 179 = .ok (.iconst 4, 1) := by decide +kernel
theorem dX10_ticks_180 : decode cX10_ticks 180 = .ok (.iaload, 1) := by decide +kernel
theorem dX10_ticks_181 : decode cX10_ticks 181 = .ok (.iconst 2, 1) := by decide +kernel
theorem dX10_ticks_182 : decode cX10_ticks 182 = .ok (.idiv, 1) := by decide +kernel
theorem dX10_ticks_183 : decode cX10_ticks 183 = .ok (.if_icmp .gt 7, 3) := by decide +kernel
theorem dX10_ticks_186 : decode cX10_ticks 186 = .ok (.iconst 0, 1) := by decide +kernel
theorem dX10_ticks_187 : decode cX10_ticks 187 = .ok (.goto 10, 3) := by decide +kernel
theorem dX10_ticks_190 : decode cX10_ticks 190 = .ok (.aload_n 0, 1) := by decide +kernel
theorem dX10_ticks_191 : decode cX10_ticks 191 = .ok (.getfield 7, 3) := by decide +kernel
theorem dX10_ticks_194 : decode cX10_ticks 194 = .ok (.bipush 19, 2) := by decide +kernel
theorem dX10_ticks_196 : decode cX10_ticks 196 = .ok (.iaload, 1) := by decide +kernel
theorem dX10_ticks_197 : decode cX10_ticks 197 = .ok (.iastore, 1) := by decide +kernel
theorem dX10_ticks_198 : decode cX10_ticks 198 = .ok (.aload_n 0, 1) := by decide +kernel
theorem dX10_ticks_199 : decode cX10_ticks 199 = .ok (.getfield 7, 3) := by decide +kernel
theorem dX10_ticks_202 : decode cX10_ticks 202 = .ok (.bipush 15, 2) := by decide +kernel
theorem dX10_ticks_204 : decode cX10_ticks 204 = .ok (.aload_n 0, 1) := by decide +kernel
theorem dX10_ticks_205 : decode cX10_ticks 205 = .ok (.getfield 7, 3) := by decide +kernel
theorem dX10_ticks_208 : decode cX10_ticks 208 = .ok (.bipush 18, 2) := by decide +kernel
theorem dX10_ticks_210 : decode cX10_ticks 210 = .ok (.iaload, 1) := by decide +kernel
theorem dX10_ticks_211 : decode cX10_ticks 211 = .ok (.aload_n 0, 1) := by decide +kernel
theorem dX10_ticks_212 : decode cX10_ticks 212 = .ok (.getfield 7, 3) := by decide +kernel
theorem dX10_ticks_215 : decode cX10_ticks 215 = .ok (.bipush 15, 2) := by decide +kernel
theorem dX10_ticks_217 : decode cX10_ticks 217 = .ok (.iaload, 1) := by decide +kernel
theorem dX10_ticks_218 : decode cX10_ticks 218 = .ok (.if_icmp .le 13, 3) := by decide +kernel
theorem dX10_ticks_221 : decode cX10_ticks 221 = .ok (.aload_n 0, 1) := by decide +kernel
theorem dX10_ticks_222 : decode cX10_ticks 222 = .ok (.getfield 7, 3) := by decide +kernel
theorem dX10_ticks_225 : decode cX10_ticks 225 = .ok (.bipush 18, 2) := by decide +kernel
theorem dX10_ticks_227 : decode cX10_ticks 227 = .ok (.iaload, 1) := by decide +kernel
theorem dX10_ticks_228 : decode cX10_ticks 228 = .ok (.goto 10, 3) := by decide +kernel
theorem dX10_ticks_231 : decode cX10_ticks 231 = .ok (.aload_n 0, 1) := by decide +kernel
theorem dX10_ticks_232 : decode cX10_ticks 232 = .ok (.getfield 7, 3) := by decide +kernel
theorem dX10_ticks_235 : decode cX10_ticks 235 = .ok (.bipush 15, 2) := by decide +kernel
theorem dX10_ticks_237 : decode cX10_ticks 237 = .ok (.iaload, 1) := by decide +kernel
theorem dX10_ticks_238 : decode cX10_ticks 238 = .ok (.iastore, 1) := by decide +kernel
theorem dX10_ticks_239 : decode cX10_ticks 239 = .ok (.aload_n 0, 1) := by decide +kernel
theorem dX10_ticks_240 : decode cX10_ticks 240 = .ok (.getfield 7, 3) := by decide +kernel
theorem dX10_ticks_243 : decode cX10_ticks 243 = .ok (.bipush 6, 2) := by decide +kernel
theorem dX10_ticks_245 : decode cX10_ticks 245 = .ok (.dup2, 1) := by decide +kernel
theorem dX10_ticks_246 : decode cX10_ticks 246 = .ok (.iaload, 1) := by decide +kernel
theorem dX10_ticks_247 : decode cX10_ticks 247 = .ok (.iconst 1, 1) := by decide +kernel
theorem dX10_ticks_248 : decode cX10_ticks 248 = .ok (.iadd, 1) := by decide +kernel
theorem dX10_ticks_249 : decode cX10_ticks 249 = .ok (.iastore, 1) := by decide +kernel
theorem dX10_ticks_250 : decode cX10_ticks 250 = .ok (.return_, 1) := by decide +kernel
theorem cc_X10_ticks_X10_targetBy : CallC tX10_ticks tX10_targetBy 1 := ⟨by decide +kernel, by decide +kernel, by decide +kernel, by decide, by decide, qw_80, qw_1069⟩
theorem cc_X10_ticks_X10_isAhead : CallC tX10_ticks tX10_isAhead 2 := ⟨by decide +kernel, by decide +kernel, by decide +kernel, by decide, by decide, qw_80, qw_1081⟩
theorem cc_X10_ticks_X10_moves : CallC tX10_ticks tX10_moves 1 := ⟨by decide +kernel, by decide +kernel, by decide +kernel, by decide, by decide, qw_80, qw_1096⟩
theorem cc_X10_ticks_X10_reads : CallC tX10_ticks tX10_reads 0 := ⟨by decide +kernel, by decide +kernel, by decide +kernel, by decide, by decide, qw_80, qw_1104⟩
theorem cc_X10_ticks_X10_givesUp : CallC tX10_ticks tX10_givesUp 0 := ⟨by decide +kernel, by decide +kernel, by decide +kernel, by decide, by decide, qw_80, qw_1112⟩
def kX10_ticks : Nat → WOp := cN 124 (cN 58 (cN 27 (cN 12 (cN 5 (cN 1 (cN 0 (cL 0 (o_aload 1 0)) (cL 1 (o_aload 2 0))) (cN 2 (cL 2 (o_getf 5 8 0)) (cL 5 (o_push 6 2)))) (cN 7 (cN 6 (cL 6 (o_iald 7)) (cL 7 (o_callV 10 8 1 tX10_targetBy 0 0))) (cN 10 (cL 10 (o_istore 11 1)) (cN 11 (cL 11 (o_aload 12 0)) (cL 12 (o_getf 15 8 0)))))) (cN 18 (cN 16 (cN 15 (cL 15 (o_push 16 2)) (cL 16 (o_iald 17))) (cN 17 (cL 17 (o_push 18 1)) (cL 18 (o_icmp_ne 57 21)))) (cN 22 (cN 21 (cL 21 (o_iload 22 1)) (cL 22 (o_push 23 (-1)))) (cN 23 (cL 23 (o_icmp_eq 57 26)) (cN 26 (cL 26 (o_aload 27 0)) (cL 27 (o_iload 28 1))))))) (cN 45 (cN 34 (cN 29 (cN 28 (cL 28 (o_aload 29 0)) (cL 29 (o_getf 32 8 0))) (cN 32 (cL 32 (o_push 34 20)) (cL 34 (o_iald 35)))) (cN 38 (cN 35 (cL 35 (o_callV 38 8 2 tX10_isAhead 0 0)) (cL 38 (o_if_ne 57 41))) (cN 41 (cL 41 (o_aload 42 0)) (cN 42 (cL 42 (o_getf 45 8 0)) (cL 45 (o_push 47 20)))))) (cN 52 (cN 48 (cN 47 (cL 47 (o_push 48 3)) (cL 48 (o_aload 49 0))) (cN 49 (cL 49 (o_getf 52 8 0)) (cL 52 (o_push 54 20)))) (cN 55 (cN 54 (cL 54 (o_iald 55)) (cL 55 (o_isub 56))) (cN 56 (cL 56 (o_iast 57)) (cN 57 (cL 57 (o_aload 58 0)) (cL 58 (o_getf 61 8 0)))))))) (cN 89 (cN 73 (cN 65 (cN 63 (cN 61 (cL 61 (o_push 63 14)) (cL 63 (o_dup2 64))) (cN 64 (cL 64 (o_iald 65)) (cL 65 (o_aload 66 0)))) (cN 69 (cN 66 (cL 66 (o_getf 69 8 0)) (cL 69 (o_push 71 19))) (cN 71 (cL 71 (o_iald 72)) (cN 72 (cL 72 (o_iadd 73)) (cL 73 (o_iast 74)))))) (cN 80 (cN 75 (cN 74 (cL 74 (o_aload 75 0)) (cL 75 (o_getf 78 8 0))) (cN 78 (cL 78 (o_push 80 17)) (cL 80 (o_iald 81)))) (cN 84 (cN 81 (cL 81 (o_if_ne 88 84)) (cL 84 (o_push 85 1))) (cN 85 (cL 85 (o_goto 89)) (cN 88 (cL 88 (o_push 89 0)) (cL 89 (o_istore 90 2))))))) (cN 105 (cN 95 (cN 91 (cN 90 (cL 90 (o_aload 91 0)) (cL 91 (o_iload 92 1))) (cN 92 (cL 92 (o_callV 95 8 1 tX10_moves 0 0)) (cL 95 (o_iload 96 2)))) (cN 99 (cN 96 (cL 96 (o_if_eq 113 99)) (cL 99 (o_aload 100 0))) (cN 100 (cL 100 (o_getf 103 8 0)) (cN 103 (cL 103 (o_push 105 17)) (cL 105 (o_iald 106)))))) (cN 114 (cN 109 (cN 106 (cL 106 (o_if_ne 113 109)) (cL 109 (o_aload 110 0))) (cN 110 (cL 110 (o_callV 113 8 0 tX10_reads 0 0)) (cN 113 (cL 113 (o_aload 114 0)) (cL 114 (o_callV 117 8 0 tX10_givesUp 0 0))))) (cN 118 (cN 117 (cL 117 (o_aload 118 0)) (cL 118 (o_getf 121 8 0))) (cN 121 (cL 121 (o_push 123 18)) (cN 123 (cL 123 (o_dup2 124)) (cL 124 (o_iald 125))))))))) (cN 186 (cN 155 (cN 140 (cN 131 (cN 126 (cN 125 (cL 125 (o_aload 126 0)) (cL 126 (o_getf 129 8 0))) (cN 129 (cL 129 (o_push 131 18)) (cL 131 (o_iald 132)))) (cN 135 (cN 132 (cL 132 (o_if_le 139 135)) (cL 135 (o_push 136 1))) (cN 136 (cL 136 (o_goto 140)) (cN 139 (cL 139 (o_push 140 0)) (cL 140 (o_isub 141)))))) (cN 146 (cN 142 (cN 141 (cL 141 (o_iast 142)) (cL 142 (o_aload 143 0))) (cN 143 (cL 143 (o_getf 146 8 0)) (cL 146 (o_push 148 19)))) (cN 149 (cN 148 (cL 148 (o_aload 149 0)) (cL 149 (o_getf 152 8 0))) (cN 152 (cL 152 (o_push 154 18)) (cN 154 (cL 154 (o_iald 155)) (cL 155 (o_aload 156 0))))))) (cN 172 (cN 161 (cN 159 (cN 156 (cL 156 (o_getf 159 8 0)) (cL 159 (o_push 160 4))) (cN 160 (cL 160 (o_iald 161)) (cL 161 (o_icmp_lt 168 164)))) (cN 165 (cN 164 (cL 164 (o_push 165 1)) (cL 165 (o_goto 197))) (cN 168 (cL 168 (o_aload 169 0)) (cN 169 (cL 169 (o_getf 172 8 0)) (cL 172 (o_push 174 18)))))) (cN 179 (cN 175 (cN 174 (cL 174 (o_iald 175)) (cL 175 (o_aload 176 0))) (cN 176 (cL 176 (o_getf 179 8 0)) (cL 179 (o_push 180 4)))) (cN 181 (cN 180 (cL 180 (o_iald 181)) (cL 181 (o_push 182 2))) (cN 182 (cL 182 (o_idiv 183)) (cN 183 (cL 183 (o_icmp_gt 190 186)) (cL 186 (o_push 187 0)))))))) (cN 218 (cN 202 (cN 194 (cN 190 (cN 187 (cL 187 (o_goto 197)) (cL 190 (o_aload 191 0))) (cN 191 (cL 191 (o_getf 194 8 0)) (cL 194 (o_push 196 19)))) (cN 197 (cN 196 (cL 196 (o_iald 197)) (cL 197 (o_iast 198))) (cN 198 (cL 198 (o_aload 199 0)) (cN 199 (cL 199 (o_getf 202 8 0)) (cL 202 (o_push 204 15)))))) (cN 210 (cN 205 (cN 204 (cL 204 (o_aload 205 0)) (cL 205 (o_getf 208 8 0))) (cN 208 (cL 208 (o_push 210 18)) (cL 210 (o_iald 211)))) (cN 212 (cN 211 (cL 211 (o_aload 212 0)) (cL 212 (o_getf 215 8 0))) (cN 215 (cL 215 (o_push 217 15)) (cN 217 (cL 217 (o_iald 218)) (cL 218 (o_icmp_le 231 221))))))) (cN 237 (cN 227 (cN 222 (cN 221 (cL 221 (o_aload 222 0)) (cL 222 (o_getf 225 8 0))) (cN 225 (cL 225 (o_push 227 18)) (cL 227 (o_iald 228)))) (cN 231 (cN 228 (cL 228 (o_goto 238)) (cL 231 (o_aload 232 0))) (cN 232 (cL 232 (o_getf 235 8 0)) (cN 235 (cL 235 (o_push 237 15)) (cL 237 (o_iald 238)))))) (cN 245 (cN 239 (cN 238 (cL 238 (o_iast 239)) (cL 239 (o_aload 240 0))) (cN 240 (cL 240 (o_getf 243 8 0)) (cN 243 (cL 243 (o_push 245 6)) (cL 245 (o_dup2 246))))) (cN 247 (cN 246 (cL 246 (o_iald 247)) (cL 247 (o_push 248 1))) (cN 248 (cL 248 (o_iadd 249)) (cN 249 (cL 249 (o_iast 250)) (cL 250 (o_vret)))))))))
theorem sX10_ticks : ∀ pc, Snd tX10_ticks G1 pc (kX10_ticks pc) := s_N (s_N (s_N (s_N (s_N (s_N (s_N (s_L (s_aload_n dX10_ticks_0 rfl)) (s_L (s_aload_n dX10_ticks_1 rfl))) (s_N (s_L (s_getf ok_8 (k := 0) (by decide) dX10_ticks_2 qw_972)) (s_L (s_iconst dX10_ticks_5 (by decide +kernel))))) (s_N (s_N (s_L (s_iald dX10_ticks_6)) (s_L (s_callV (d' := tX10_targetBy) (mc := 0) (ms := 0) ok_8 cc_X10_ticks_X10_targetBy qw_1066 qw_1068 qw_37 dX10_ticks_7))) (s_N (s_L (s_istore_n dX10_ticks_10 rfl (by decide))) (s_N (s_L (s_aload_n dX10_ticks_11 rfl)) (s_L (s_getf ok_8 (k := 0) (by decide) dX10_ticks_12 qw_972)))))) (s_N (s_N (s_N (s_L (s_iconst dX10_ticks_15 (by decide +kernel))) (s_L (s_iald dX10_ticks_16))) (s_N (s_L (s_iconst dX10_ticks_17 (by decide +kernel))) (s_L (s_o_icmp_ne dX10_ticks_18 (by decide))))) (s_N (s_N (s_L (s_iload_n dX10_ticks_21 rfl)) (s_L (s_iconst dX10_ticks_22 (by decide +kernel)))) (s_N (s_L (s_o_icmp_eq dX10_ticks_23 (by decide))) (s_N (s_L (s_aload_n dX10_ticks_26 rfl)) (s_L (s_iload_n dX10_ticks_27 rfl))))))) (s_N (s_N (s_N (s_N (s_L (s_aload_n dX10_ticks_28 rfl)) (s_L (s_getf ok_8 (k := 0) (by decide) dX10_ticks_29 qw_972))) (s_N (s_L (s_bipush dX10_ticks_32 (by decide +kernel))) (s_L (s_iald dX10_ticks_34)))) (s_N (s_N (s_L (s_callV (d' := tX10_isAhead) (mc := 0) (ms := 0) ok_8 cc_X10_ticks_X10_isAhead qw_1078 qw_1080 qw_40 dX10_ticks_35)) (s_L (s_o_if_ne dX10_ticks_38 (by decide)))) (s_N (s_L (s_aload_n dX10_ticks_41 rfl)) (s_N (s_L (s_getf ok_8 (k := 0) (by decide) dX10_ticks_42 qw_972)) (s_L (s_bipush dX10_ticks_45 (by decide +kernel))))))) (s_N (s_N (s_N (s_L (s_iconst dX10_ticks_47 (by decide +kernel))) (s_L (s_aload_n dX10_ticks_48 rfl))) (s_N (s_L (s_getf ok_8 (k := 0) (by decide) dX10_ticks_49 qw_972)) (s_L (s_bipush dX10_ticks_52 (by decide +kernel))))) (s_N (s_N (s_L (s_iald dX10_ticks_54)) (s_L (s_o_isub dX10_ticks_55))) (s_N (s_L (s_iast dX10_ticks_56)) (s_N (s_L (s_aload_n dX10_ticks_57 rfl)) (s_L (s_getf ok_8 (k := 0) (by decide) dX10_ticks_58 qw_972)))))))) (s_N (s_N (s_N (s_N (s_N (s_L (s_bipush dX10_ticks_61 (by decide +kernel))) (s_L (s_o_dup2 dX10_ticks_63))) (s_N (s_L (s_iald dX10_ticks_64)) (s_L (s_aload_n dX10_ticks_65 rfl)))) (s_N (s_N (s_L (s_getf ok_8 (k := 0) (by decide) dX10_ticks_66 qw_972)) (s_L (s_bipush dX10_ticks_69 (by decide +kernel)))) (s_N (s_L (s_iald dX10_ticks_71)) (s_N (s_L (s_o_iadd dX10_ticks_72)) (s_L (s_iast dX10_ticks_73)))))) (s_N (s_N (s_N (s_L (s_aload_n dX10_ticks_74 rfl)) (s_L (s_getf ok_8 (k := 0) (by decide) dX10_ticks_75 qw_972))) (s_N (s_L (s_bipush dX10_ticks_78 (by decide +kernel))) (s_L (s_iald dX10_ticks_80)))) (s_N (s_N (s_L (s_o_if_ne dX10_ticks_81 (by decide))) (s_L (s_iconst dX10_ticks_84 (by decide +kernel)))) (s_N (s_L (s_o_goto dX10_ticks_85 (by decide))) (s_N (s_L (s_iconst dX10_ticks_88 (by decide +kernel))) (s_L (s_istore_n dX10_ticks_89 rfl (by decide)))))))) (s_N (s_N (s_N (s_N (s_L (s_aload_n dX10_ticks_90 rfl)) (s_L (s_iload_n dX10_ticks_91 rfl))) (s_N (s_L (s_callV (d' := tX10_moves) (mc := 0) (ms := 0) ok_8 cc_X10_ticks_X10_moves qw_1093 qw_1095 qw_43 dX10_ticks_92)) (s_L (s_iload_n dX10_ticks_95 rfl)))) (s_N (s_N (s_L (s_o_if_eq dX10_ticks_96 (by decide))) (s_L (s_aload_n dX10_ticks_99 rfl))) (s_N (s_L (s_getf ok_8 (k := 0) (by decide) dX10_ticks_100 qw_972)) (s_N (s_L (s_bipush dX10_ticks_103 (by decide +kernel))) (s_L (s_iald dX10_ticks_105)))))) (s_N (s_N (s_N (s_L (s_o_if_ne dX10_ticks_106 (by decide))) (s_L (s_aload_n dX10_ticks_109 rfl))) (s_N (s_L (s_callV (d' := tX10_reads) (mc := 0) (ms := 0) ok_8 cc_X10_ticks_X10_reads qw_1101 qw_1103 qw_45 dX10_ticks_110)) (s_N (s_L (s_aload_n dX10_ticks_113 rfl)) (s_L (s_callV (d' := tX10_givesUp) (mc := 0) (ms := 0) ok_8 cc_X10_ticks_X10_givesUp qw_1109 qw_1111 qw_47 dX10_ticks_114))))) (s_N (s_N (s_L (s_aload_n dX10_ticks_117 rfl)) (s_L (s_getf ok_8 (k := 0) (by decide) dX10_ticks_118 qw_972))) (s_N (s_L (s_bipush dX10_ticks_121 (by decide +kernel))) (s_N (s_L (s_o_dup2 dX10_ticks_123)) (s_L (s_iald dX10_ticks_124))))))))) (s_N (s_N (s_N (s_N (s_N (s_N (s_L (s_aload_n dX10_ticks_125 rfl)) (s_L (s_getf ok_8 (k := 0) (by decide) dX10_ticks_126 qw_972))) (s_N (s_L (s_bipush dX10_ticks_129 (by decide +kernel))) (s_L (s_iald dX10_ticks_131)))) (s_N (s_N (s_L (s_o_if_le dX10_ticks_132 (by decide))) (s_L (s_iconst dX10_ticks_135 (by decide +kernel)))) (s_N (s_L (s_o_goto dX10_ticks_136 (by decide))) (s_N (s_L (s_iconst dX10_ticks_139 (by decide +kernel))) (s_L (s_o_isub dX10_ticks_140)))))) (s_N (s_N (s_N (s_L (s_iast dX10_ticks_141)) (s_L (s_aload_n dX10_ticks_142 rfl))) (s_N (s_L (s_getf ok_8 (k := 0) (by decide) dX10_ticks_143 qw_972)) (s_L (s_bipush dX10_ticks_146 (by decide +kernel))))) (s_N (s_N (s_L (s_aload_n dX10_ticks_148 rfl)) (s_L (s_getf ok_8 (k := 0) (by decide) dX10_ticks_149 qw_972))) (s_N (s_L (s_bipush dX10_ticks_152 (by decide +kernel))) (s_N (s_L (s_iald dX10_ticks_154)) (s_L (s_aload_n dX10_ticks_155 rfl))))))) (s_N (s_N (s_N (s_N (s_L (s_getf ok_8 (k := 0) (by decide) dX10_ticks_156 qw_972)) (s_L (s_iconst dX10_ticks_159 (by decide +kernel)))) (s_N (s_L (s_iald dX10_ticks_160)) (s_L (s_o_icmp_lt dX10_ticks_161 (by decide))))) (s_N (s_N (s_L (s_iconst dX10_ticks_164 (by decide +kernel))) (s_L (s_o_goto dX10_ticks_165 (by decide)))) (s_N (s_L (s_aload_n dX10_ticks_168 rfl)) (s_N (s_L (s_getf ok_8 (k := 0) (by decide) dX10_ticks_169 qw_972)) (s_L (s_bipush dX10_ticks_172 (by decide +kernel))))))) (s_N (s_N (s_N (s_L (s_iald dX10_ticks_174)) (s_L (s_aload_n dX10_ticks_175 rfl))) (s_N (s_L (s_getf ok_8 (k := 0) (by decide) dX10_ticks_176 qw_972)) (s_L (s_iconst dX10_ticks_179 (by decide +kernel))))) (s_N (s_N (s_L (s_iald dX10_ticks_180)) (s_L (s_iconst dX10_ticks_181 (by decide +kernel)))) (s_N (s_L (s_o_idiv dX10_ticks_182)) (s_N (s_L (s_o_icmp_gt dX10_ticks_183 (by decide))) (s_L (s_iconst dX10_ticks_186 (by decide +kernel))))))))) (s_N (s_N (s_N (s_N (s_N (s_L (s_o_goto dX10_ticks_187 (by decide))) (s_L (s_aload_n dX10_ticks_190 rfl))) (s_N (s_L (s_getf ok_8 (k := 0) (by decide) dX10_ticks_191 qw_972)) (s_L (s_bipush dX10_ticks_194 (by decide +kernel))))) (s_N (s_N (s_L (s_iald dX10_ticks_196)) (s_L (s_iast dX10_ticks_197))) (s_N (s_L (s_aload_n dX10_ticks_198 rfl)) (s_N (s_L (s_getf ok_8 (k := 0) (by decide) dX10_ticks_199 qw_972)) (s_L (s_bipush dX10_ticks_202 (by decide +kernel))))))) (s_N (s_N (s_N (s_L (s_aload_n dX10_ticks_204 rfl)) (s_L (s_getf ok_8 (k := 0) (by decide) dX10_ticks_205 qw_972))) (s_N (s_L (s_bipush dX10_ticks_208 (by decide +kernel))) (s_L (s_iald dX10_ticks_210)))) (s_N (s_N (s_L (s_aload_n dX10_ticks_211 rfl)) (s_L (s_getf ok_8 (k := 0) (by decide) dX10_ticks_212 qw_972))) (s_N (s_L (s_bipush dX10_ticks_215 (by decide +kernel))) (s_N (s_L (s_iald dX10_ticks_217)) (s_L (s_o_icmp_le dX10_ticks_218 (by decide)))))))) (s_N (s_N (s_N (s_N (s_L (s_aload_n dX10_ticks_221 rfl)) (s_L (s_getf ok_8 (k := 0) (by decide) dX10_ticks_222 qw_972))) (s_N (s_L (s_bipush dX10_ticks_225 (by decide +kernel))) (s_L (s_iald dX10_ticks_227)))) (s_N (s_N (s_L (s_o_goto dX10_ticks_228 (by decide))) (s_L (s_aload_n dX10_ticks_231 rfl))) (s_N (s_L (s_getf ok_8 (k := 0) (by decide) dX10_ticks_232 qw_972)) (s_N (s_L (s_bipush dX10_ticks_235 (by decide +kernel))) (s_L (s_iald dX10_ticks_237)))))) (s_N (s_N (s_N (s_L (s_iast dX10_ticks_238)) (s_L (s_aload_n dX10_ticks_239 rfl))) (s_N (s_L (s_getf ok_8 (k := 0) (by decide) dX10_ticks_240 qw_972)) (s_N (s_L (s_bipush dX10_ticks_243 (by decide +kernel))) (s_L (s_o_dup2 dX10_ticks_245))))) (s_N (s_N (s_L (s_iald dX10_ticks_246)) (s_L (s_iconst dX10_ticks_247 (by decide +kernel)))) (s_N (s_L (s_o_iadd dX10_ticks_248)) (s_N (s_L (s_iast dX10_ticks_249)) (s_L (s_vret rfl dX10_ticks_250)))))))))
/-! PlateArmModel.plate -/
theorem dX10_plate_0 : decode cX10_plate 0 = .ok (.aload_n 0, 1) := by decide +kernel
theorem dX10_plate_1 : decode cX10_plate 1 = .ok (.iload_n 1, 1) := by decide +kernel
theorem dX10_plate_2 : decode cX10_plate 2 = .ok (.iconst 4, 1) := by decide +kernel
theorem dX10_plate_3 : decode cX10_plate 3 = .ok (.bipush 24, 2) := by decide +kernel
theorem dX10_plate_5 : decode cX10_plate 5 = .ok (.invokestatic 90, 3) := by decide +kernel
theorem dX10_plate_8 : decode cX10_plate 8 = .ok (.ifCond .eq 17, 3) := by decide +kernel
theorem dX10_plate_11 : decode cX10_plate 11 = .ok (.iload_n 2, 1) := by decide +kernel
theorem dX10_plate_12 : decode cX10_plate 12 = .ok (.iconst 3, 1) := by decide +kernel
theorem dX10_plate_13 : decode cX10_plate 13 = .ok (.bipush 12, 2) := by decide +kernel
theorem dX10_plate_15 : decode cX10_plate 15 = .ok (.invokestatic 90, 3) := by decide +kernel
theorem dX10_plate_18 : decode cX10_plate 18 = .ok (.ifCond .eq 7, 3) := by decide +kernel
theorem dX10_plate_21 : decode cX10_plate 21 = .ok (.iconst 0, 1) := by decide +kernel
theorem dX10_plate_22 : decode cX10_plate 22 = .ok (.goto 4, 3) := by decide +kernel
theorem dX10_plate_25 : decode cX10_plate 25 = .ok (.iconst 1, 1) := by decide +kernel
theorem dX10_plate_26 : decode cX10_plate 26 = .ok (.invokevirtual 94, 3) := by decide +kernel
theorem dX10_plate_29 : decode cX10_plate 29 = .ok (.ifCond .eq 5, 3) := by decide +kernel
theorem dX10_plate_32 : decode cX10_plate 32 = .ok (.iconst 0, 1) := by decide +kernel
theorem dX10_plate_33 : decode cX10_plate 33 = .ok (.ireturn, 1) := by decide +kernel
theorem dX10_plate_34 : decode cX10_plate 34 = .ok (.aload_n 0, 1) := by decide +kernel
theorem dX10_plate_35 : decode cX10_plate 35 = .ok (.invokevirtual 98, 3) := by decide +kernel
theorem dX10_plate_38 : decode cX10_plate 38 = .ok (.aload_n 0, 1) := by decide +kernel
theorem dX10_plate_39 : decode cX10_plate 39 = .ok (.getfield 7, 3) := by decide +kernel
theorem dX10_plate_42 : decode cX10_plate 42 = .ok (.bipush 21, 2) := by decide +kernel
theorem dX10_plate_44 : decode cX10_plate 44 = .ok (.iaload, 1) := by decide +kernel
theorem dX10_plate_45 : decode cX10_plate 45 = .ok (.istore_n 3, 1) := by decide +kernel
theorem dX10_plate_46 : decode cX10_plate 46 = .ok (.bipush 6, 2) := by decide +kernel
theorem dX10_plate_48 : decode cX10_plate 48 = .ok (.istore 4, 2) := by decide +kernel
theorem dX10_plate_50 : decode cX10_plate 50 = .ok (.iload 4, 2) := by decide +kernel
theorem dX10_plate_52 : decode cX10_plate 52 = .ok (.sipush 133, 3) := by decide +kernel
theorem dX10_plate_55 : decode cX10_plate 55 = .ok (.if_icmp .ge 17, 3) := by decide +kernel
theorem dX10_plate_58 : decode cX10_plate 58 = .ok (.aload_n 0, 1) := by decide +kernel
theorem dX10_plate_59 : decode cX10_plate 59 = .ok (.getfield 7, 3) := by decide +kernel
theorem dX10_plate_62 : decode cX10_plate 62 = .ok (.iload 4, 2) := by decide +kernel
theorem dX10_plate_64 : decode cX10_plate 64 = .ok (.iconst 0, 1) := by decide +kernel
theorem dX10_plate_65 : decode cX10_plate 65 = .ok (.iastore, 1) := by decide +kernel
theorem dX10_plate_66 : decode cX10_plate 66 = .ok (.iinc 4 1, 3) := by decide +kernel
theorem dX10_plate_69 : decode cX10_plate 69 = .ok (.goto (-19), 3) := by decide +kernel
theorem dX10_plate_72 : decode cX10_plate 72 = .ok (.aload_n 0, 1) := by decide +kernel
theorem dX10_plate_73 : decode cX10_plate 73 = .ok (.getfield 7, 3) := by decide +kernel
theorem dX10_plate_76 : decode cX10_plate 76 = .ok (.iconst 0, 1) := by decide +kernel
theorem dX10_plate_77 : decode cX10_plate 77 = .ok (.iload_n 1, 1) := by decide +kernel
theorem dX10_plate_78 : decode cX10_plate 78 = .ok (.iastore, 1) := by decide +kernel
theorem dX10_plate_79 : decode cX10_plate 79 = .ok (.aload_n 0, 1) := by decide +kernel
theorem dX10_plate_80 : decode cX10_plate 80 = .ok (.getfield 7, 3) := by decide +kernel
theorem dX10_plate_83 : decode cX10_plate 83 = .ok (.iconst 1, 1) := by decide +kernel
theorem dX10_plate_84 : decode cX10_plate 84 = .ok (.iload_n 2, 1) := by decide +kernel
theorem dX10_plate_85 : decode cX10_plate 85 = .ok (.iastore, 1) := by decide +kernel
theorem dX10_plate_86 : decode cX10_plate 86 = .ok (.aload_n 0, 1) := by decide +kernel
theorem dX10_plate_87 : decode cX10_plate 87 = .ok (.getfield 7, 3) := by decide +kernel
theorem dX10_plate_90 : decode cX10_plate 90 = .ok (.bipush 20, 2) := by decide +kernel
theorem dX10_plate_92 : decode cX10_plate 92 = .ok (.iconst 1, 1) := by decide +kernel
theorem dX10_plate_93 : decode cX10_plate 93 = .ok (.iastore, 1) := by decide +kernel
theorem dX10_plate_94 : decode cX10_plate 94 = .ok (.iload_n 3, 1) := by decide +kernel
theorem dX10_plate_95 : decode cX10_plate 95 = .ok (.ireturn, 1) := by decide +kernel
theorem cc_X10_plate_X10_in : CallC tX10_plate tX10_in 3 := ⟨by decide +kernel, by decide +kernel, by decide +kernel, by decide, by decide, qw_80, qw_1025⟩
theorem cc_X10_plate_X10_throwsAt : CallC tX10_plate tX10_throwsAt 1 := ⟨by decide +kernel, by decide +kernel, by decide +kernel, by decide, by decide, qw_80, qw_1029⟩
theorem cc_X10_plate_X10_saves : CallC tX10_plate tX10_saves 0 := ⟨by decide +kernel, by decide +kernel, by decide +kernel, by decide, by decide, qw_80, qw_1033⟩
def kX10_plate : Nat → WOp := cN 48 (cN 22 (cN 8 (cN 2 (cN 0 (cL 0 (o_aload 1 0)) (cN 1 (cL 1 (o_iload 2 1)) (cL 2 (o_push 3 4)))) (cN 3 (cL 3 (o_push 5 24)) (cN 5 (cL 5 (o_callS 8 3 tX10_in 0 0)) (cL 8 (o_if_eq 25 11))))) (cN 13 (cN 11 (cL 11 (o_iload 12 2)) (cN 12 (cL 12 (o_push 13 3)) (cL 13 (o_push 15 12)))) (cN 18 (cN 15 (cL 15 (o_callS 18 3 tX10_in 0 0)) (cL 18 (o_if_eq 25 21))) (cN 21 (cL 21 (o_push 22 0)) (cL 22 (o_goto 26)))))) (cN 35 (cN 29 (cN 25 (cL 25 (o_push 26 1)) (cN 26 (cL 26 (o_callV 29 8 1 tX10_throwsAt 0 0)) (cL 29 (o_if_eq 34 32)))) (cN 33 (cN 32 (cL 32 (o_push 33 0)) (cL 33 (o_iret))) (cN 34 (cL 34 (o_aload 35 0)) (cL 35 (o_callV 38 8 0 tX10_saves 0 0))))) (cN 42 (cN 38 (cL 38 (o_aload 39 0)) (cN 39 (cL 39 (o_getf 42 8 0)) (cL 42 (o_push 44 21)))) (cN 45 (cN 44 (cL 44 (o_iald 45)) (cL 45 (o_istore 46 3))) (cN 46 (cL 46 (o_push 48 6)) (cL 48 (o_istore 50 4))))))) (cN 76 (cN 62 (cN 55 (cN 50 (cL 50 (o_iload 52 4)) (cN 52 (cL 52 (o_push 55 133)) (cL 55 (o_icmp_ge 72 58)))) (cN 58 (cL 58 (o_aload 59 0)) (cN 59 (cL 59 (o_getf 62 8 0)) (cL 62 (o_iload 64 4))))) (cN 66 (cN 64 (cL 64 (o_push 65 0)) (cN 65 (cL 65 (o_iast 66)) (cL 66 (o_iinc 69 4 1)))) (cN 72 (cN 69 (cL 69 (o_goto 50)) (cL 72 (o_aload 73 0))) (cN 73 (cL 73 (o_getf 76 8 0)) (cL 76 (o_push 77 0)))))) (cN 85 (cN 79 (cN 77 (cL 77 (o_iload 78 1)) (cN 78 (cL 78 (o_iast 79)) (cL 79 (o_aload 80 0)))) (cN 83 (cN 80 (cL 80 (o_getf 83 8 0)) (cL 83 (o_push 84 1))) (cN 84 (cL 84 (o_iload 85 2)) (cL 85 (o_iast 86))))) (cN 90 (cN 86 (cL 86 (o_aload 87 0)) (cN 87 (cL 87 (o_getf 90 8 0)) (cL 90 (o_push 92 20)))) (cN 93 (cN 92 (cL 92 (o_push 93 1)) (cL 93 (o_iast 94))) (cN 94 (cL 94 (o_iload 95 3)) (cL 95 (o_iret)))))))
theorem sX10_plate : ∀ pc, Snd tX10_plate G1 pc (kX10_plate pc) := s_N (s_N (s_N (s_N (s_N (s_L (s_aload_n dX10_plate_0 rfl)) (s_N (s_L (s_iload_n dX10_plate_1 rfl)) (s_L (s_iconst dX10_plate_2 (by decide +kernel))))) (s_N (s_L (s_bipush dX10_plate_3 (by decide +kernel))) (s_N (s_L (s_callS (d' := tX10_in) (mc := 0) (ms := 0) cc_X10_plate_X10_in qw_1023 qw_1024 dX10_plate_5)) (s_L (s_o_if_eq dX10_plate_8 (by decide)))))) (s_N (s_N (s_L (s_iload_n dX10_plate_11 rfl)) (s_N (s_L (s_iconst dX10_plate_12 (by decide +kernel))) (s_L (s_bipush dX10_plate_13 (by decide +kernel))))) (s_N (s_N (s_L (s_callS (d' := tX10_in) (mc := 0) (ms := 0) cc_X10_plate_X10_in qw_1023 qw_1024 dX10_plate_15)) (s_L (s_o_if_eq dX10_plate_18 (by decide)))) (s_N (s_L (s_iconst dX10_plate_21 (by decide +kernel))) (s_L (s_o_goto dX10_plate_22 (by decide))))))) (s_N (s_N (s_N (s_L (s_iconst dX10_plate_25 (by decide +kernel))) (s_N (s_L (s_callV (d' := tX10_throwsAt) (mc := 0) (ms := 0) ok_8 cc_X10_plate_X10_throwsAt qw_1026 qw_1028 qw_31 dX10_plate_26)) (s_L (s_o_if_eq dX10_plate_29 (by decide))))) (s_N (s_N (s_L (s_iconst dX10_plate_32 (by decide +kernel))) (s_L (s_iret rfl dX10_plate_33))) (s_N (s_L (s_aload_n dX10_plate_34 rfl)) (s_L (s_callV (d' := tX10_saves) (mc := 0) (ms := 0) ok_8 cc_X10_plate_X10_saves qw_1030 qw_1032 qw_32 dX10_plate_35))))) (s_N (s_N (s_L (s_aload_n dX10_plate_38 rfl)) (s_N (s_L (s_getf ok_8 (k := 0) (by decide) dX10_plate_39 qw_972)) (s_L (s_bipush dX10_plate_42 (by decide +kernel))))) (s_N (s_N (s_L (s_iald dX10_plate_44)) (s_L (s_istore_n dX10_plate_45 rfl (by decide)))) (s_N (s_L (s_bipush dX10_plate_46 (by decide +kernel))) (s_L (s_istore dX10_plate_48 (by decide)))))))) (s_N (s_N (s_N (s_N (s_L (s_iload dX10_plate_50)) (s_N (s_L (s_sipush dX10_plate_52 (by decide +kernel))) (s_L (s_o_icmp_ge dX10_plate_55 (by decide))))) (s_N (s_L (s_aload_n dX10_plate_58 rfl)) (s_N (s_L (s_getf ok_8 (k := 0) (by decide) dX10_plate_59 qw_972)) (s_L (s_iload dX10_plate_62))))) (s_N (s_N (s_L (s_iconst dX10_plate_64 (by decide +kernel))) (s_N (s_L (s_iast dX10_plate_65)) (s_L (s_iinc (v := 1) dX10_plate_66 (by decide +kernel) (by decide))))) (s_N (s_N (s_L (s_o_goto dX10_plate_69 (by decide))) (s_L (s_aload_n dX10_plate_72 rfl))) (s_N (s_L (s_getf ok_8 (k := 0) (by decide) dX10_plate_73 qw_972)) (s_L (s_iconst dX10_plate_76 (by decide +kernel))))))) (s_N (s_N (s_N (s_L (s_iload_n dX10_plate_77 rfl)) (s_N (s_L (s_iast dX10_plate_78)) (s_L (s_aload_n dX10_plate_79 rfl)))) (s_N (s_N (s_L (s_getf ok_8 (k := 0) (by decide) dX10_plate_80 qw_972)) (s_L (s_iconst dX10_plate_83 (by decide +kernel)))) (s_N (s_L (s_iload_n dX10_plate_84 rfl)) (s_L (s_iast dX10_plate_85))))) (s_N (s_N (s_L (s_aload_n dX10_plate_86 rfl)) (s_N (s_L (s_getf ok_8 (k := 0) (by decide) dX10_plate_87 qw_972)) (s_L (s_bipush dX10_plate_90 (by decide +kernel))))) (s_N (s_N (s_L (s_iconst dX10_plate_92 (by decide +kernel))) (s_L (s_iast dX10_plate_93))) (s_N (s_L (s_iload_n dX10_plate_94 rfl)) (s_L (s_iret rfl dX10_plate_95)))))))
/-! PlateArmModel.request -/
theorem dX10_request_0 : decode cX10_request 0 = .ok (.iload_n 1, 1) := by decide +kernel
theorem dX10_request_1 : decode cX10_request 1 = .ok (.iconst 0, 1) := by decide +kernel
theorem dX10_request_2 : decode cX10_request 2 = .ok (.aload_n 0, 1) := by decide +kernel
theorem dX10_request_3 : decode cX10_request 3 = .ok (.getfield 7, 3) := by decide +kernel
theorem dX10_request_6 : decode cX10_request 6 = .ok (.iconst 0, 1) := by decide +kernel
theorem dX10_request_7 : decode cX10_request 7 = .ok (.iaload, 1) := by decide +kernel
theorem dX10_request_8 : decode cX10_request 8 = .ok (.iconst 1, 1) := by decide +kernel
theorem dX10_request_9 : decode cX10_request 9 = .ok (.isub, 1) := by decide +kernel
theorem dX10_request_10 : decode cX10_request 10 = .ok (.invokestatic 90, 3) := by decide +kernel
theorem dX10_request_13 : decode cX10_request 13 = .ok (.ifCond .eq 34, 3) := by decide +kernel
theorem dX10_request_16 : decode cX10_request 16 = .ok (.iload_n 2, 1) := by decide +kernel
theorem dX10_request_17 : decode cX10_request 17 = .ok (.iconst 0, 1) := by decide +kernel
theorem dX10_request_18 : decode cX10_request 18 = .ok (.aload_n 0, 1) := by decide +kernel
theorem dX10_request_19 : decode cX10_request 19 = .ok (.getfield 7, 3) := by decide +kernel
theorem dX10_request_22 : decode cX10_request 22 = .ok (.iconst 1, 1) := by decide +kernel
theorem dX10_request_23 : decode cX10_request 23 = .ok (.iaload, 1) := by decide +kernel
theorem dX10_request_24 : decode cX10_request 24 = .ok (.iconst 1, 1) := by decide +kernel
theorem dX10_request_25 : decode cX10_request 25 = .ok (.isub, 1) := by decide +kernel
theorem dX10_request_26 : decode cX10_request 26 = .ok (.invokestatic 90, 3) := by decide +kernel
theorem dX10_request_29 : decode cX10_request 29 = .ok (.ifCond .eq 18, 3) := by decide +kernel
theorem dX10_request_32 : decode cX10_request 32 = .ok (.iload_n 3, 1) := by decide +kernel
theorem dX10_request_33 : decode cX10_request 33 = .ok (.iconst 0, 1) := by decide +kernel
theorem dX10_request_34 : decode cX10_request 34 = .ok (.sipush 9999, 3) := by decide +kernel
theorem dX10_request_37 : decode cX10_request 37 = .ok (.invokestatic 90, 3) := by decide +kernel
theorem dX10_request_40 : decode cX10_request 40 = .ok (.ifCond .eq 7, 3) := by decide +kernel
theorem dX10_request_43 : decode cX10_request 43 = .ok (.iconst 1, 1) := by decide +kernel
theorem dX10_request_44 : decode cX10_request 44 = .ok (.goto 4, 3) := by decide +kernel
theorem dX10_request_47 : decode cX10_request 47 = .ok (.iconst 0, 1) := by decide +kernel
theorem dX10_request_48 : decode cX10_request 48 = .ok (.istore 4, 2) := by decide +kernel
theorem dX10_request_50 : decode cX10_request 50 = .ok (.aload_n 0, 1) := by decide +kernel
theorem dX10_request_51 : decode cX10_request 51 = .ok (.iload 4, 2) := by decide +kernel
theorem dX10_request_53 : decode cX10_request 53 = .ok (.ifCond .ne 7, 3) := by decide +kernel
theorem dX10_request_56 : decode cX10_request 56 = .ok (.iconst 1, 1) := by decide +kernel
theorem dX10_request_57 : decode cX10_request 57 = .ok (.goto 20, 3) := by decide +kernel
theorem dX10_request_60 : decode cX10_request 60 = .ok (.aload_n 0, 1) := by decide +kernel
theorem dX10_request_61 : decode cX10_request 61 = .ok (.getfield 7, 3) := by decide +kernel
theorem dX10_request_64 : decode cX10_request 64 = .ok (.bipush 21, 2) := by decide +kernel
theorem dX10_request_66 : decode cX10_request 66 = .ok (.iaload, 1) := by decide +kernel
theorem dX10_request_67 : decode cX10_request 67 = .ok (.bipush 12, 2) := by decide +kernel
theorem dX10_request_69 : decode cX10_request 69 = .ok (.if_icmp .ne 7, 3) := by decide +kernel
theorem dX10_request_72 : decode cX10_request 72 = .ok (.iconst 2, 1) := by decide +kernel
theorem dX10_request_73 : decode cX10_request 73 = .ok (.goto 4, 3) := by decide +kernel
theorem dX10_request_76 : decode cX10_request 76 = .ok (.iconst 0, 1) := by decide +kernel
theorem dX10_request_77 : decode cX10_request 77 = .ok (.invokevirtual 94, 3) := by decide +kernel
theorem dX10_request_80 : decode cX10_request 80 = .ok (.ifCond .eq 5, 3) := by decide +kernel
theorem dX10_request_83 : decode cX10_request 83 = .ok (.iconst 0, 1) := by decide +kernel
theorem dX10_request_84 : decode cX10_request 84 = .ok (.ireturn, 1) := by decide +kernel
theorem dX10_request_85 : decode cX10_request 85 = .ok (.aload_n 0, 1) := by decide +kernel
theorem dX10_request_86 : decode cX10_request 86 = .ok (.invokevirtual 98, 3) := by decide +kernel
theorem dX10_request_89 : decode cX10_request 89 = .ok (.bipush 23, 2) := by decide +kernel
theorem dX10_request_91 : decode cX10_request 91 = .ok (.iconst 5, 1) := by decide +kernel
theorem dX10_request_92 : decode cX10_request 92 = .ok (.aload_n 0, 1) := by decide +kernel
theorem dX10_request_93 : decode cX10_request 93 = .ok (.getfield 7, 3) := by decide +kernel
theorem dX10_request_96 : decode cX10_request 96 = .ok (.bipush 21, 2) := by decide +kernel
theorem dX10_request_98 : decode cX10_request 98 = .ok (.iaload, 1) := by decide +kernel
theorem dX10_request_99 : decode cX10_request 99 = .ok (.imul, 1) := by decide +kernel
theorem dX10_request_100 : decode cX10_request 100 = .ok (.iadd, 1) := by decide +kernel
theorem dX10_request_101 : decode cX10_request 101 = .ok (.istore 5, 2) := by decide +kernel
theorem dX10_request_103 : decode cX10_request 103 = .ok (.aload_n 0, 1) := by decide +kernel
theorem dX10_request_104 : decode cX10_request 104 = .ok (.getfield 7, 3) := by decide +kernel
theorem dX10_request_107 : decode cX10_request 107 = .ok (.iload 5, 2) := by decide +kernel
theorem dX10_request_109 : decode cX10_request 109 = .ok (.iconst 0, 1) := by decide +kernel
theorem dX10_request_110 : decode cX10_request 110 = .ok (.iadd, 1) := by decide +kernel
theorem dX10_request_111 : decode cX10_request 111 = .ok (.aload_n 0, 1) := by decide +kernel
theorem dX10_request_112 : decode cX10_request 112 = .ok (.getfield 7, 3) := by decide +kernel
theorem dX10_request_115 : decode cX10_request 115 = .ok (.bipush 7, 2) := by decide +kernel
theorem dX10_request_117 : decode cX10_request 117 = .ok (.iaload, 1) := by decide +kernel
theorem dX10_request_118 : decode cX10_request 118 = .ok (.iastore, 1) := by decide +kernel
theorem dX10_request_119 : decode cX10_request 119 = .ok (.aload_n 0, 1) := by decide +kernel
theorem dX10_request_120 : decode cX10_request 120 = .ok (.getfield 7, 3) := by decide +kernel
theorem dX10_request_123 : decode cX10_request 123 = .ok (.iload 5, 2) := by decide +kernel
theorem dX10_request_125 : decode cX10_request 125 = .ok (.iconst 1, 1) := by decide +kernel
theorem dX10_request_126 : decode cX10_request 126 = .ok (.iadd, 1) := by decide +kernel
theorem dX10_request_127 : decode cX10_request 127 = .ok (.iload_n 1, 1) := by decide +kernel
theorem dX10_request_128 : decode cX10_request 128 = .ok (.iastore, 1) := by decide +kernel
theorem dX10_request_129 : decode cX10_request 129 = .ok (.aload_n 0, 1) := by decide +kernel
theorem dX10_request_130 : decode cX10_request 130 = .ok (.getfield 7, 3) := by decide +kernel
theorem dX10_request_133 : decode cX10_request 133 = .ok (.iload 5, 2) := by decide +kernel
theorem dX10_request_135 : decode cX10_request 135 = .ok (.iconst 2, 1) := by decide +kernel
theorem dX10_request_136 : decode cX10_request 136 = .ok (.iadd, 1) := by decide +kernel
theorem dX10_request_137 : decode cX10_request 137 = .ok (.iload_n 2, 1) := by decide +kernel
theorem dX10_request_138 : decode cX10_request 138 = .ok (.iastore, 1) := by decide +kernel
theorem dX10_request_139 : decode cX10_request 139 = .ok (.aload_n 0, 1) := by decide +kernel
theorem dX10_request_140 : decode cX10_request 140 = .ok (.getfield 7, 3) := by decide +kernel
theorem dX10_request_143 : decode cX10_request 143 = .ok (.iload 5, 2) := by decide +kernel
theorem dX10_request_145 : decode cX10_request 145 = .ok (.iconst 3, 1) := by decide +kernel
theorem dX10_request_146 : decode cX10_request 146 = .ok (.iadd, 1) := by decide +kernel
theorem dX10_request_147 : decode cX10_request 147 = .ok (.iload_n 3, 1) := by decide +kernel
theorem dX10_request_148 : decode cX10_request 148 = .ok (.iastore, 1) := by decide +kernel
theorem dX10_request_149 : decode cX10_request 149 = .ok (.aload_n 0, 1) := by decide +kernel
theorem dX10_request_150 : decode cX10_request 150 = .ok (.getfield 7, 3) := by decide +kernel
theorem dX10_request_153 : decode cX10_request 153 = .ok (.iload 5, 2) := by decide +kernel
theorem dX10_request_155 : decode cX10_request 155 = .ok (.iconst 4, 1) := by decide +kernel
theorem dX10_request_156 : decode cX10_request 156 = .ok (.iadd, 1) := by decide +kernel
theorem dX10_request_157 : decode cX10_request 157 = .ok (.aload_n 0, 1) := by decide +kernel
theorem dX10_request_158 : decode cX10_request 158 = .ok (.getfield 7, 3) := by decide +kernel
theorem dX10_request_161 : decode cX10_request 161 = .ok (.bipush 6, 2) := by decide +kernel
theorem dX10_request_163 : decode cX10_request 163 = .ok (.iaload, 1) := by decide +kernel
theorem dX10_request_164 : decode cX10_request 164 = .ok (.iastore, 1) := by decide +kernel
theorem dX10_request_165 : decode cX10_request 165 = .ok (.aload_n 0, 1) := by decide +kernel
theorem dX10_request_166 : decode cX10_request 166 = .ok (.getfield 7, 3) := by decide +kernel
theorem dX10_request_169 : decode cX10_request 169 = .ok (.bipush 21, 2) := by decide +kernel
theorem dX10_request_171 : decode cX10_request 171 = .ok (.dup2, 1) := by decide +kernel
theorem dX10_request_172 : decode cX10_request 172 = .ok (.iaload, 1) := by decide +kernel
theorem dX10_request_173 : decode cX10_request 173 = .ok (.iconst 1, 1) := by decide +kernel
theorem dX10_request_174 : decode cX10_request 174 = .ok (.iadd, 1) := by decide +kernel
theorem dX10_request_175 : decode cX10_request 175 = .ok (.iastore, 1) := by decide +kernel
theorem dX10_request_176 : decode cX10_request 176 = .ok (.aload_n 0, 1) := by decide +kernel
theorem dX10_request_177 : decode cX10_request 177 = .ok (.getfield 7, 3) := by decide +kernel
theorem dX10_request_180 : decode cX10_request 180 = .ok (.bipush 7, 2) := by decide +kernel
theorem dX10_request_182 : decode cX10_request 182 = .ok (.dup2, 1) := by decide +kernel
theorem dX10_request_183 : decode cX10_request 183 = .ok (.iaload, 1) := by decide +kernel
theorem dX10_request_184 : decode cX10_request 184 = .ok (.iconst 1, 1) := by decide +kernel
theorem dX10_request_185 : decode cX10_request 185 = .ok (.iadd, 1) := by decide +kernel
theorem dX10_request_186 : decode cX10_request 186 = .ok (.iastore, 1) := by decide +kernel
theorem dX10_request_187 : decode cX10_request 187 = .ok (.aload_n 0, 1) := by decide +kernel
theorem dX10_request_188 : decode cX10_request 188 = .ok (.getfield 7, 3) := by decide +kernel
theorem dX10_request_191 : decode cX10_request 191 = .ok (.bipush 7, 2) := by decide +kernel
theorem dX10_request_193 : decode cX10_request 193 = .ok (.iaload, 1) := by decide +kernel
theorem dX10_request_194 : decode cX10_request 194 = .ok (.iconst 1, 1) := by decide +kernel
theorem dX10_request_195 : decode cX10_request 195 = .ok (.isub, 1) := by decide +kernel
theorem dX10_request_196 : decode cX10_request 196 = .ok (.ireturn, 1) := by decide +kernel
theorem cc_X10_request_X10_in : CallC tX10_request tX10_in 3 := ⟨by decide +kernel, by decide +kernel, by decide +kernel, by decide, by decide, qw_80, qw_1025⟩
theorem cc_X10_request_X10_throwsAt : CallC tX10_request tX10_throwsAt 1 := ⟨by decide +kernel, by decide +kernel, by decide +kernel, by decide, by decide, qw_80, qw_1029⟩
theorem cc_X10_request_X10_saves : CallC tX10_request tX10_saves 0 := ⟨by decide +kernel, by decide +kernel, by decide +kernel, by decide, by decide, qw_80, qw_1033⟩
def kX10_request : Nat → WOp := cN 107 (cN 50 (cN 22 (cN 8 (cN 2 (cN 0 (cL 0 (o_iload 1 1)) (cN 1 (cL 1 (o_push 2 0)) (cL 2 (o_aload 3 0)))) (cN 6 (cN 3 (cL 3 (o_getf 6 8 0)) (cL 6 (o_push 7 0))) (cN 7 (cL 7 (o_iald 8)) (cL 8 (o_push 9 1))))) (cN 16 (cN 10 (cN 9 (cL 9 (o_isub 10)) (cL 10 (o_callS 13 3 tX10_in 0 0))) (cN 13 (cL 13 (o_if_eq 47 16)) (cL 16 (o_iload 17 2)))) (cN 18 (cN 17 (cL 17 (o_push 18 0)) (cL 18 (o_aload 19 0))) (cN 19 (cL 19 (o_getf 22 8 0)) (cL 22 (o_push 23 1)))))) (cN 33 (cN 25 (cN 23 (cL 23 (o_iald 24)) (cN 24 (cL 24 (o_push 25 1)) (cL 25 (o_isub 26)))) (cN 29 (cN 26 (cL 26 (o_callS 29 3 tX10_in 0 0)) (cL 29 (o_if_eq 47 32))) (cN 32 (cL 32 (o_iload 33 3)) (cL 33 (o_push 34 0))))) (cN 43 (cN 37 (cN 34 (cL 34 (o_push 37 9999)) (cL 37 (o_callS 40 3 tX10_in 0 0))) (cN 40 (cL 40 (o_if_eq 47 43)) (cL 43 (o_push 44 1)))) (cN 47 (cN 44 (cL 44 (o_goto 48)) (cL 47 (o_push 48 0))) (cN 48 (cL 48 (o_istore 50 4)) (cL 50 (o_aload 51 0))))))) (cN 80 (cN 64 (cN 56 (cN 51 (cL 51 (o_iload 53 4)) (cN 53 (cL 53 (o_if_ne 60 56)) (cL 56 (o_push 57 1)))) (cN 60 (cN 57 (cL 57 (o_goto 77)) (cL 60 (o_aload 61 0))) (cN 61 (cL 61 (o_getf 64 8 0)) (cL 64 (o_push 66 21))))) (cN 72 (cN 67 (cN 66 (cL 66 (o_iald 67)) (cL 67 (o_push 69 12))) (cN 69 (cL 69 (o_icmp_ne 76 72)) (cL 72 (o_push 73 2)))) (cN 76 (cN 73 (cL 73 (o_goto 77)) (cL 76 (o_push 77 0))) (cN 77 (cL 77 (o_callV 80 8 1 tX10_throwsAt 0 0)) (cL 80 (o_if_eq 85 83)))))) (cN 93 (cN 86 (cN 84 (cN 83 (cL 83 (o_push 84 0)) (cL 84 (o_iret))) (cN 85 (cL 85 (o_aload 86 0)) (cL 86 (o_callV 89 8 0 tX10_saves 0 0)))) (cN 91 (cN 89 (cL 89 (o_push 91 23)) (cL 91 (o_push 92 5))) (cN 92 (cL 92 (o_aload 93 0)) (cL 93 (o_getf 96 8 0))))) (cN 100 (cN 98 (cN 96 (cL 96 (o_push 98 21)) (cL 98 (o_iald 99))) (cN 99 (cL 99 (o_imul 100)) (cL 100 (o_iadd 101)))) (cN 103 (cN 101 (cL 101 (o_istore 103 5)) (cL 103 (o_aload 104 0))) (cN 104 (cL 104 (o_getf 107 8 0)) (cL 107 (o_iload 109 5)))))))) (cN 150 (cN 129 (cN 118 (cN 111 (cN 109 (cL 109 (o_push 110 0)) (cN 110 (cL 110 (o_iadd 111)) (cL 111 (o_aload 112 0)))) (cN 115 (cN 112 (cL 112 (o_getf 115 8 0)) (cL 115 (o_push 117 7))) (cN 117 (cL 117 (o_iald 118)) (cL 118 (o_iast 119))))) (cN 125 (cN 120 (cN 119 (cL 119 (o_aload 120 0)) (cL 120 (o_getf 123 8 0))) (cN 123 (cL 123 (o_iload 125 5)) (cL 125 (o_push 126 1)))) (cN 127 (cN 126 (cL 126 (o_iadd 127)) (cL 127 (o_iload 128 1))) (cN 128 (cL 128 (o_iast 129)) (cL 129 (o_aload 130 0)))))) (cN 139 (cN 135 (cN 130 (cL 130 (o_getf 133 8 0)) (cN 133 (cL 133 (o_iload 135 5)) (cL 135 (o_push 136 2)))) (cN 137 (cN 136 (cL 136 (o_iadd 137)) (cL 137 (o_iload 138 2))) (cN 138 (cL 138 (o_iast 139)) (cL 139 (o_aload 140 0))))) (cN 146 (cN 143 (cN 140 (cL 140 (o_getf 143 8 0)) (cL 143 (o_iload 145 5))) (cN 145 (cL 145 (o_push 146 3)) (cL 146 (o_iadd 147)))) (cN 148 (cN 147 (cL 147 (o_iload 148 3)) (cL 148 (o_iast 149))) (cN 149 (cL 149 (o_aload 150 0)) (cL 150 (o_getf 153 8 0))))))) (cN 174 (cN 163 (cN 156 (cN 153 (cL 153 (o_iload 155 5)) (cN 155 (cL 155 (o_push 156 4)) (cL 156 (o_iadd 157)))) (cN 158 (cN 157 (cL 157 (o_aload 158 0)) (cL 158 (o_getf 161 8 0))) (cN 161 (cL 161 (o_push 163 6)) (cL 163 (o_iald 164))))) (cN 169 (cN 165 (cN 164 (cL 164 (o_iast 165)) (cL 165 (o_aload 166 0))) (cN 166 (cL 166 (o_getf 169 8 0)) (cL 169 (o_push 171 21)))) (cN 172 (cN 171 (cL 171 (o_dup2 172)) (cL 172 (o_iald 173))) (cN 173 (cL 173 (o_push 174 1)) (cL 174 (o_iadd 175)))))) (cN 185 (cN 180 (cN 176 (cN 175 (cL 175 (o_iast 176)) (cL 176 (o_aload 177 0))) (cN 177 (cL 177 (o_getf 180 8 0)) (cL 180 (o_push 182 7)))) (cN 183 (cN 182 (cL 182 (o_dup2 183)) (cL 183 (o_iald 184))) (cN 184 (cL 184 (o_push 185 1)) (cL 185 (o_iadd 186))))) (cN 191 (cN 187 (cN 186 (cL 186 (o_iast 187)) (cL 187 (o_aload 188 0))) (cN 188 (cL 188 (o_getf 191 8 0)) (cL 191 (o_push 193 7)))) (cN 194 (cN 193 (cL 193 (o_iald 194)) (cL 194 (o_push 195 1))) (cN 195 (cL 195 (o_isub 196)) (cL 196 (o_iret))))))))
theorem sX10_request : ∀ pc, Snd tX10_request G1 pc (kX10_request pc) := s_N (s_N (s_N (s_N (s_N (s_N (s_L (s_iload_n dX10_request_0 rfl)) (s_N (s_L (s_iconst dX10_request_1 (by decide +kernel))) (s_L (s_aload_n dX10_request_2 rfl)))) (s_N (s_N (s_L (s_getf ok_8 (k := 0) (by decide) dX10_request_3 qw_972)) (s_L (s_iconst dX10_request_6 (by decide +kernel)))) (s_N (s_L (s_iald dX10_request_7)) (s_L (s_iconst dX10_request_8 (by decide +kernel)))))) (s_N (s_N (s_N (s_L (s_o_isub dX10_request_9)) (s_L (s_callS (d' := tX10_in) (mc := 0) (ms := 0) cc_X10_request_X10_in qw_1023 qw_1024 dX10_request_10))) (s_N (s_L (s_o_if_eq dX10_request_13 (by decide))) (s_L (s_iload_n dX10_request_16 rfl)))) (s_N (s_N (s_L (s_iconst dX10_request_17 (by decide +kernel))) (s_L (s_aload_n dX10_request_18 rfl))) (s_N (s_L (s_getf ok_8 (k := 0) (by decide) dX10_request_19 qw_972)) (s_L (s_iconst dX10_request_22 (by decide +kernel))))))) (s_N (s_N (s_N (s_L (s_iald dX10_request_23)) (s_N (s_L (s_iconst dX10_request_24 (by decide +kernel))) (s_L (s_o_isub dX10_request_25)))) (s_N (s_N (s_L (s_callS (d' := tX10_in) (mc := 0) (ms := 0) cc_X10_request_X10_in qw_1023 qw_1024 dX10_request_26)) (s_L (s_o_if_eq dX10_request_29 (by decide)))) (s_N (s_L (s_iload_n dX10_request_32 rfl)) (s_L (s_iconst dX10_request_33 (by decide +kernel)))))) (s_N (s_N (s_N (s_L (s_sipush dX10_request_34 (by decide +kernel))) (s_L (s_callS (d' := tX10_in) (mc := 0) (ms := 0) cc_X10_request_X10_in qw_1023 qw_1024 dX10_request_37))) (s_N (s_L (s_o_if_eq dX10_request_40 (by decide))) (s_L (s_iconst dX10_request_43 (by decide +kernel))))) (s_N (s_N (s_L (s_o_goto dX10_request_44 (by decide))) (s_L (s_iconst dX10_request_47 (by decide +kernel)))) (s_N (s_L (s_istore dX10_request_48 (by decide))) (s_L (s_aload_n dX10_request_50 rfl))))))) (s_N (s_N (s_N (s_N (s_L (s_iload dX10_request_51)) (s_N (s_L (s_o_if_ne dX10_request_53 (by decide))) (s_L (s_iconst dX10_request_56 (by decide +kernel))))) (s_N (s_N (s_L (s_o_goto dX10_request_57 (by decide))) (s_L (s_aload_n dX10_request_60 rfl))) (s_N (s_L (s_getf ok_8 (k := 0) (by decide) dX10_request_61 qw_972)) (s_L (s_bipush dX10_request_64 (by decide +kernel)))))) (s_N (s_N (s_N (s_L (s_iald dX10_request_66)) (s_L (s_bipush dX10_request_67 (by decide +kernel)))) (s_N (s_L (s_o_icmp_ne dX10_request_69 (by decide))) (s_L (s_iconst dX10_request_72 (by decide +kernel))))) (s_N (s_N (s_L (s_o_goto dX10_request_73 (by decide))) (s_L (s_iconst dX10_request_76 (by decide +kernel)))) (s_N (s_L (s_callV (d' := tX10_throwsAt) (mc := 0) (ms := 0) ok_8 cc_X10_request_X10_throwsAt qw_1026 qw_1028 qw_31 dX10_request_77)) (s_L (s_o_if_eq dX10_request_80 (by decide))))))) (s_N (s_N (s_N (s_N (s_L (s_iconst dX10_request_83 (by decide +kernel))) (s_L (s_iret rfl dX10_request_84))) (s_N (s_L (s_aload_n dX10_request_85 rfl)) (s_L (s_callV (d' := tX10_saves) (mc := 0) (ms := 0) ok_8 cc_X10_request_X10_saves qw_1030 qw_1032 qw_32 dX10_request_86)))) (s_N (s_N (s_L (s_bipush dX10_request_89 (by decide +kernel))) (s_L (s_iconst dX10_request_91 (by decide +kernel)))) (s_N (s_L (s_aload_n dX10_request_92 rfl)) (s_L (s_getf ok_8 (k := 0) (by decide) dX10_request_93 qw_972))))) (s_N (s_N (s_N (s_L (s_bipush dX10_request_96 (by decide +kernel))) (s_L (s_iald dX10_request_98))) (s_N (s_L (s_o_imul dX10_request_99)) (s_L (s_o_iadd dX10_request_100)))) (s_N (s_N (s_L (s_istore dX10_request_101 (by decide))) (s_L (s_aload_n dX10_request_103 rfl))) (s_N (s_L (s_getf ok_8 (k := 0) (by decide) dX10_request_104 qw_972)) (s_L (s_iload dX10_request_107)))))))) (s_N (s_N (s_N (s_N (s_N (s_L (s_iconst dX10_request_109 (by decide +kernel))) (s_N (s_L (s_o_iadd dX10_request_110)) (s_L (s_aload_n dX10_request_111 rfl)))) (s_N (s_N (s_L (s_getf ok_8 (k := 0) (by decide) dX10_request_112 qw_972)) (s_L (s_bipush dX10_request_115 (by decide +kernel)))) (s_N (s_L (s_iald dX10_request_117)) (s_L (s_iast dX10_request_118))))) (s_N (s_N (s_N (s_L (s_aload_n dX10_request_119 rfl)) (s_L (s_getf ok_8 (k := 0) (by decide) dX10_request_120 qw_972))) (s_N (s_L (s_iload dX10_request_123)) (s_L (s_iconst dX10_request_125 (by decide +kernel))))) (s_N (s_N (s_L (s_o_iadd dX10_request_126)) (s_L (s_iload_n dX10_request_127 rfl))) (s_N (s_L (s_iast dX10_request_128)) (s_L (s_aload_n dX10_request_129 rfl)))))) (s_N (s_N (s_N (s_L (s_getf ok_8 (k := 0) (by decide) dX10_request_130 qw_972)) (s_N (s_L (s_iload dX10_request_133)) (s_L (s_iconst dX10_request_135 (by decide +kernel))))) (s_N (s_N (s_L (s_o_iadd dX10_request_136)) (s_L (s_iload_n dX10_request_137 rfl))) (s_N (s_L (s_iast dX10_request_138)) (s_L (s_aload_n dX10_request_139 rfl))))) (s_N (s_N (s_N (s_L (s_getf ok_8 (k := 0) (by decide) dX10_request_140 qw_972)) (s_L (s_iload dX10_request_143))) (s_N (s_L (s_iconst dX10_request_145 (by decide +kernel))) (s_L (s_o_iadd dX10_request_146)))) (s_N (s_N (s_L (s_iload_n dX10_request_147 rfl)) (s_L (s_iast dX10_request_148))) (s_N (s_L (s_aload_n dX10_request_149 rfl)) (s_L (s_getf ok_8 (k := 0) (by decide) dX10_request_150 qw_972))))))) (s_N (s_N (s_N (s_N (s_L (s_iload dX10_request_153)) (s_N (s_L (s_iconst dX10_request_155 (by decide +kernel))) (s_L (s_o_iadd dX10_request_156)))) (s_N (s_N (s_L (s_aload_n dX10_request_157 rfl)) (s_L (s_getf ok_8 (k := 0) (by decide) dX10_request_158 qw_972))) (s_N (s_L (s_bipush dX10_request_161 (by decide +kernel))) (s_L (s_iald dX10_request_163))))) (s_N (s_N (s_N (s_L (s_iast dX10_request_164)) (s_L (s_aload_n dX10_request_165 rfl))) (s_N (s_L (s_getf ok_8 (k := 0) (by decide) dX10_request_166 qw_972)) (s_L (s_bipush dX10_request_169 (by decide +kernel))))) (s_N (s_N (s_L (s_o_dup2 dX10_request_171)) (s_L (s_iald dX10_request_172))) (s_N (s_L (s_iconst dX10_request_173 (by decide +kernel))) (s_L (s_o_iadd dX10_request_174)))))) (s_N (s_N (s_N (s_N (s_L (s_iast dX10_request_175)) (s_L (s_aload_n dX10_request_176 rfl))) (s_N (s_L (s_getf ok_8 (k := 0) (by decide) dX10_request_177 qw_972)) (s_L (s_bipush dX10_request_180 (by decide +kernel))))) (s_N (s_N (s_L (s_o_dup2 dX10_request_182)) (s_L (s_iald dX10_request_183))) (s_N (s_L (s_iconst dX10_request_184 (by decide +kernel))) (s_L (s_o_iadd dX10_request_185))))) (s_N (s_N (s_N (s_L (s_iast dX10_request_186)) (s_L (s_aload_n dX10_request_187 rfl))) (s_N (s_L (s_getf ok_8 (k := 0) (by decide) dX10_request_188 qw_972)) (s_L (s_bipush dX10_request_191 (by decide +kernel))))) (s_N (s_N (s_L (s_iald dX10_request_193)) (s_L (s_iconst dX10_request_194 (by decide +kernel)))) (s_N (s_L (s_o_isub dX10_request_195)) (s_L (s_iret rfl dX10_request_196))))))))
/-! PlateArmModel.cancel -/
theorem dX10_cancel_0 : decode cX10_cancel 0 = .ok (.aload_n 0, 1) := by decide +kernel
theorem dX10_cancel_1 : decode cX10_cancel 1 = .ok (.iload_n 1, 1) := by decide +kernel
theorem dX10_cancel_2 : decode cX10_cancel 2 = .ok (.invokevirtual 101, 3) := by decide +kernel
theorem dX10_cancel_5 : decode cX10_cancel 5 = .ok (.istore_n 2, 1) := by decide +kernel
theorem dX10_cancel_6 : decode cX10_cancel 6 = .ok (.aload_n 0, 1) := by decide +kernel
theorem dX10_cancel_7 : decode cX10_cancel 7 = .ok (.iload_n 2, 1) := by decide +kernel
theorem dX10_cancel_8 : decode cX10_cancel 8 = .ok (.iconst (-1), 1) := by decide +kernel
theorem dX10_cancel_9 : decode cX10_cancel 9 = .ok (.if_icmp .ne 7, 3) := by decide +kernel
theorem dX10_cancel_12 : decode cX10_cancel 12 = .ok (.iconst 1, 1) := by decide +kernel
theorem dX10_cancel_13 : decode cX10_cancel 13 = .ok (.goto 4, 3) := by decide +kernel
theorem dX10_cancel_16 : decode cX10_cancel 16 = .ok (.iconst 0, 1) := by decide +kernel
theorem dX10_cancel_17 : decode cX10_cancel 17 = .ok (.invokevirtual 94, 3) := by decide +kernel
theorem dX10_cancel_20 : decode cX10_cancel 20 = .ok (.ifCond .eq 5, 3) := by decide +kernel
theorem dX10_cancel_23 : decode cX10_cancel 23 = .ok (.iconst 0, 1) := by decide +kernel
theorem dX10_cancel_24 : decode cX10_cancel 24 = .ok (.ireturn, 1) := by decide +kernel
theorem dX10_cancel_25 : decode cX10_cancel 25 = .ok (.aload_n 0, 1) := by decide +kernel
theorem dX10_cancel_26 : decode cX10_cancel 26 = .ok (.invokevirtual 98, 3) := by decide +kernel
theorem dX10_cancel_29 : decode cX10_cancel 29 = .ok (.aload_n 0, 1) := by decide +kernel
theorem dX10_cancel_30 : decode cX10_cancel 30 = .ok (.getfield 7, 3) := by decide +kernel
theorem dX10_cancel_33 : decode cX10_cancel 33 = .ok (.bipush 6, 2) := by decide +kernel
theorem dX10_cancel_35 : decode cX10_cancel 35 = .ok (.iaload, 1) := by decide +kernel
theorem dX10_cancel_36 : decode cX10_cancel 36 = .ok (.aload_n 0, 1) := by decide +kernel
theorem dX10_cancel_37 : decode cX10_cancel 37 = .ok (.iload_n 2, 1) := by decide +kernel
theorem dX10_cancel_38 : decode cX10_cancel 38 = .ok (.iconst 4, 1) := by decide +kernel
theorem dX10_cancel_39 : decode cX10_cancel 39 = .ok (.invokevirtual 39, 3) := by decide +kernel
theorem dX10_cancel_42 : decode cX10_cancel 42 = .ok (.isub, 1) := by decide +kernel
theorem dX10_cancel_43 : decode cX10_cancel 43 = .ok (.istore_n 3, 1) := by decide +kernel
theorem dX10_cancel_44 : decode cX10_cancel 44 = .ok (.aload_n 0, 1) := by decide +kernel
theorem dX10_cancel_45 : decode cX10_cancel 45 = .ok (.iload_n 2, 1) := by decide +kernel
theorem dX10_cancel_46 : decode cX10_cancel 46 = .ok (.invokevirtual 75, 3) := by decide +kernel
theorem dX10_cancel_49 : decode cX10_cancel 49 = .ok (.iload_n 3, 1) := by decide +kernel
theorem dX10_cancel_50 : decode cX10_cancel 50 = .ok (.ireturn, 1) := by decide +kernel
theorem cc_X10_cancel_X10_placeOf : CallC tX10_cancel tX10_placeOf 1 := ⟨by decide +kernel, by decide +kernel, by decide +kernel, by decide, by decide, qw_80, qw_1045⟩
theorem cc_X10_cancel_X10_throwsAt : CallC tX10_cancel tX10_throwsAt 1 := ⟨by decide +kernel, by decide +kernel, by decide +kernel, by decide, by decide, qw_80, qw_1029⟩
theorem cc_X10_cancel_X10_saves : CallC tX10_cancel tX10_saves 0 := ⟨by decide +kernel, by decide +kernel, by decide +kernel, by decide, by decide, qw_80, qw_1033⟩
theorem cc_X10_cancel_X10_of : CallC tX10_cancel tX10_of 2 := ⟨by decide +kernel, by decide +kernel, by decide +kernel, by decide, by decide, qw_80, qw_1049⟩
theorem cc_X10_cancel_X10_takes : CallC tX10_cancel tX10_takes 1 := ⟨by decide +kernel, by decide +kernel, by decide +kernel, by decide, by decide, qw_80, qw_1053⟩
def kX10_cancel : Nat → WOp := cN 25 (cN 9 (cN 5 (cN 1 (cN 0 (cL 0 (o_aload 1 0)) (cL 1 (o_iload 2 1))) (cN 2 (cL 2 (o_callV 5 8 1 tX10_placeOf 0 0)) (cL 5 (o_istore 6 2)))) (cN 7 (cN 6 (cL 6 (o_aload 7 0)) (cL 7 (o_iload 8 2))) (cN 8 (cL 8 (o_push 9 (-1))) (cL 9 (o_icmp_ne 16 12))))) (cN 17 (cN 13 (cN 12 (cL 12 (o_push 13 1)) (cL 13 (o_goto 17))) (cN 16 (cL 16 (o_push 17 0)) (cL 17 (o_callV 20 8 1 tX10_throwsAt 0 0)))) (cN 23 (cN 20 (cL 20 (o_if_eq 25 23)) (cL 23 (o_push 24 0))) (cN 24 (cL 24 (o_iret)) (cL 25 (o_aload 26 0)))))) (cN 38 (cN 33 (cN 29 (cN 26 (cL 26 (o_callV 29 8 0 tX10_saves 0 0)) (cL 29 (o_aload 30 0))) (cN 30 (cL 30 (o_getf 33 8 0)) (cL 33 (o_push 35 6)))) (cN 36 (cN 35 (cL 35 (o_iald 36)) (cL 36 (o_aload 37 0))) (cN 37 (cL 37 (o_iload 38 2)) (cL 38 (o_push 39 4))))) (cN 44 (cN 42 (cN 39 (cL 39 (o_callV 42 8 2 tX10_of 0 0)) (cL 42 (o_isub 43))) (cN 43 (cL 43 (o_istore 44 3)) (cL 44 (o_aload 45 0)))) (cN 46 (cN 45 (cL 45 (o_iload 46 2)) (cL 46 (o_callV 49 8 1 tX10_takes 0 0))) (cN 49 (cL 49 (o_iload 50 3)) (cL 50 (o_iret))))))
theorem sX10_cancel : ∀ pc, Snd tX10_cancel G1 pc (kX10_cancel pc) := s_N (s_N (s_N (s_N (s_N (s_L (s_aload_n dX10_cancel_0 rfl)) (s_L (s_iload_n dX10_cancel_1 rfl))) (s_N (s_L (s_callV (d' := tX10_placeOf) (mc := 0) (ms := 0) ok_8 cc_X10_cancel_X10_placeOf qw_1042 qw_1044 qw_33 dX10_cancel_2)) (s_L (s_istore_n dX10_cancel_5 rfl (by decide))))) (s_N (s_N (s_L (s_aload_n dX10_cancel_6 rfl)) (s_L (s_iload_n dX10_cancel_7 rfl))) (s_N (s_L (s_iconst dX10_cancel_8 (by decide +kernel))) (s_L (s_o_icmp_ne dX10_cancel_9 (by decide)))))) (s_N (s_N (s_N (s_L (s_iconst dX10_cancel_12 (by decide +kernel))) (s_L (s_o_goto dX10_cancel_13 (by decide)))) (s_N (s_L (s_iconst dX10_cancel_16 (by decide +kernel))) (s_L (s_callV (d' := tX10_throwsAt) (mc := 0) (ms := 0) ok_8 cc_X10_cancel_X10_throwsAt qw_1026 qw_1028 qw_31 dX10_cancel_17)))) (s_N (s_N (s_L (s_o_if_eq dX10_cancel_20 (by decide))) (s_L (s_iconst dX10_cancel_23 (by decide +kernel)))) (s_N (s_L (s_iret rfl dX10_cancel_24)) (s_L (s_aload_n dX10_cancel_25 rfl)))))) (s_N (s_N (s_N (s_N (s_L (s_callV (d' := tX10_saves) (mc := 0) (ms := 0) ok_8 cc_X10_cancel_X10_saves qw_1030 qw_1032 qw_32 dX10_cancel_26)) (s_L (s_aload_n dX10_cancel_29 rfl))) (s_N (s_L (s_getf ok_8 (k := 0) (by decide) dX10_cancel_30 qw_972)) (s_L (s_bipush dX10_cancel_33 (by decide +kernel))))) (s_N (s_N (s_L (s_iald dX10_cancel_35)) (s_L (s_aload_n dX10_cancel_36 rfl))) (s_N (s_L (s_iload_n dX10_cancel_37 rfl)) (s_L (s_iconst dX10_cancel_38 (by decide +kernel)))))) (s_N (s_N (s_N (s_L (s_callV (d' := tX10_of) (mc := 0) (ms := 0) ok_8 cc_X10_cancel_X10_of qw_1046 qw_1048 qw_34 dX10_cancel_39)) (s_L (s_o_isub dX10_cancel_42))) (s_N (s_L (s_istore_n dX10_cancel_43 rfl (by decide))) (s_L (s_aload_n dX10_cancel_44 rfl)))) (s_N (s_N (s_L (s_iload_n dX10_cancel_45 rfl)) (s_L (s_callV (d' := tX10_takes) (mc := 0) (ms := 0) ok_8 cc_X10_cancel_X10_takes qw_1050 qw_1052 qw_35 dX10_cancel_46))) (s_N (s_L (s_iload_n dX10_cancel_49 rfl)) (s_L (s_iret rfl dX10_cancel_50))))))
/-! PlateArmModel.set -/
theorem dX10_set_0 : decode cX10_set 0 = .ok (.iload_n 1, 1) := by decide +kernel
theorem dX10_set_1 : decode cX10_set 1 = .ok (.ifCond .ne 12, 3) := by decide +kernel
theorem dX10_set_4 : decode cX10_set 4 = .ok (.iload_n 2, 1) := by decide +kernel
theorem dX10_set_5 : decode cX10_set 5 = .ok (.iconst 0, 1) := by decide +kernel
theorem dX10_set_6 : decode cX10_set 6 = .ok (.iconst 3, 1) := by decide +kernel
theorem dX10_set_7 : decode cX10_set 7 = .ok (.invokestatic 90, 3) := by decide +kernel
theorem dX10_set_10 : decode cX10_set 10 = .ok (.goto 54, 3) := by decide +kernel
theorem dX10_set_13 : decode cX10_set 13 = .ok (.iload_n 1, 1) := by decide +kernel
theorem dX10_set_14 : decode cX10_set 14 = .ok (.iconst 1, 1) := by decide +kernel
theorem dX10_set_15 : decode cX10_set 15 = .ok (.if_icmp .ne 13, 3) := by decide +kernel
theorem dX10_set_18 : decode cX10_set 18 = .ok (.iload_n 2, 1) := by decide +kernel
theorem dX10_set_19 : decode cX10_set 19 = .ok (.iconst 0, 1) := by decide +kernel
theorem dX10_set_20 : decode cX10_set 20 = .ok (.bipush 20, 2) := by decide +kernel
theorem dX10_set_22 : decode cX10_set 22 = .ok (.invokestatic 90, 3) := by decide +kernel
theorem dX10_set_25 : decode cX10_set 25 = .ok (.goto 39, 3) := by decide +kernel
theorem dX10_set_28 : decode cX10_set 28 = .ok (.iload_n 1, 1) := by decide +kernel
theorem dX10_set_29 : decode cX10_set 29 = .ok (.iconst 2, 1) := by decide +kernel
theorem dX10_set_30 : decode cX10_set 30 = .ok (.if_icmp .ne 14, 3) := by decide +kernel
theorem dX10_set_33 : decode cX10_set 33 = .ok (.iload_n 2, 1) := by decide +kernel
theorem dX10_set_34 : decode cX10_set 34 = .ok (.iconst 5, 1) := by decide +kernel
theorem dX10_set_35 : decode cX10_set 35 = .ok (.sipush 200, 3) := by decide +kernel
theorem dX10_set_38 : decode cX10_set 38 = .ok (.invokestatic 90, 3) := by decide +kernel
theorem dX10_set_41 : decode cX10_set 41 = .ok (.goto 23, 3) := by decide +kernel
theorem dX10_set_44 : decode cX10_set 44 = .ok (.iload_n 1, 1) := by decide +kernel
theorem dX10_set_45 : decode cX10_set 45 = .ok (.iconst 3, 1) := by decide +kernel
theorem dX10_set_46 : decode cX10_set 46 = .ok (.if_icmp .ne 17, 3) := by decide +kernel
theorem dX10_set_49 : decode cX10_set 49 = .ok (.iload_n 2, 1) := by decide +kernel
theorem dX10_set_50 : decode cX10_set 50 = .ok (.iconst 0, 1) := by decide +kernel
theorem dX10_set_51 : decode cX10_set 51 = .ok (.bipush 100, 2) := by decide +kernel
theorem dX10_set_53 : decode cX10_set 53 = .ok (.invokestatic 90, 3) := by decide +kernel
theorem dX10_set_56 : decode cX10_set 56 = .ok (.ifCond .eq 7, 3) := by decide +kernel
theorem dX10_set_59 : decode cX10_set 59 = .ok (.iconst 1, 1) := by decide +kernel
theorem dX10_set_60 : decode cX10_set 60 = .ok (.goto 4, 3) := by decide +kernel
theorem dX10_set_63 : decode cX10_set 63 = .ok (.iconst 0, 1) := by decide +kernel
theorem dX10_set_64 : decode cX10_set 64 = .ok (.istore_n 3, 1) := by decide +kernel
theorem dX10_set_65 : decode cX10_set 65 = .ok (.aload_n 0, 1) := by decide +kernel
theorem dX10_set_66 : decode cX10_set 66 = .ok (.iload_n 3, 1) := by decide +kernel
theorem dX10_set_67 : decode cX10_set 67 = .ok (.ifCond .eq 7, 3) := by decide +kernel
theorem dX10_set_70 : decode cX10_set 70 = .ok (.iconst 0, 1) := by decide +kernel
theorem dX10_set_71 : decode cX10_set 71 = .ok (.goto 4, 3) := by decide +kernel
theorem dX10_set_74 : decode cX10_set 74 = .ok (.iconst 1, 1) := by decide +kernel
theorem dX10_set_75 : decode cX10_set 75 = .ok (.invokevirtual 94, 3) := by decide +kernel
theorem dX10_set_78 : decode cX10_set 78 = .ok (.ifCond .eq 5, 3) := by decide +kernel
theorem dX10_set_81 : decode cX10_set 81 = .ok (.iconst 0, 1) := by decide +kernel
theorem dX10_set_82 : decode cX10_set 82 = .ok (.ireturn, 1) := by decide +kernel
theorem dX10_set_83 : decode cX10_set 83 = .ok (.aload_n 0, 1) := by decide +kernel
theorem dX10_set_84 : decode cX10_set 84 = .ok (.invokevirtual 98, 3) := by decide +kernel
theorem dX10_set_87 : decode cX10_set 87 = .ok (.aload_n 0, 1) := by decide +kernel
theorem dX10_set_88 : decode cX10_set 88 = .ok (.getfield 7, 3) := by decide +kernel
theorem dX10_set_91 : decode cX10_set 91 = .ok (.iconst 2, 1) := by decide +kernel
theorem dX10_set_92 : decode cX10_set 92 = .ok (.iload_n 1, 1) := by decide +kernel
theorem dX10_set_93 : decode cX10_set 93 = .ok (.iadd, 1) := by decide +kernel
theorem dX10_set_94 : decode cX10_set 94 = .ok (.iaload, 1) := by decide +kernel
theorem dX10_set_95 : decode cX10_set 95 = .ok (.istore 4, 2) := by decide +kernel
theorem dX10_set_97 : decode cX10_set 97 = .ok (.aload_n 0, 1) := by decide +kernel
theorem dX10_set_98 : decode cX10_set 98 = .ok (.getfield 7, 3) := by decide +kernel
theorem dX10_set_101 : decode cX10_set 101 = .ok (.iconst 2, 1) := by decide +kernel
theorem dX10_set_102 : decode cX10_set 102 = .ok (.iload_n 1, 1) := by decide +kernel
theorem dX10_set_103 : decode cX10_set 103 = .ok (.iadd, 1) := by decide +kernel
theorem dX10_set_104 : decode cX10_set 104 = .ok (.iload_n 2, 1) := by decide +kernel
theorem dX10_set_105 : decode cX10_set 105 = .ok (.iastore, 1) := by decide +kernel
theorem dX10_set_106 : decode cX10_set 106 = .ok (.iload 4, 2) := by decide +kernel
theorem dX10_set_108 : decode cX10_set 108 = .ok (.ireturn, 1) := by decide +kernel
theorem cc_X10_set_X10_in : CallC tX10_set tX10_in 3 := ⟨by decide +kernel, by decide +kernel, by decide +kernel, by decide, by decide, qw_80, qw_1025⟩
theorem cc_X10_set_X10_throwsAt : CallC tX10_set tX10_throwsAt 1 := ⟨by decide +kernel, by decide +kernel, by decide +kernel, by decide, by decide, qw_80, qw_1029⟩
theorem cc_X10_set_X10_saves : CallC tX10_set tX10_saves 0 := ⟨by decide +kernel, by decide +kernel, by decide +kernel, by decide, by decide, qw_80, qw_1033⟩
def kX10_set : Nat → WOp := cN 56 (cN 25 (cN 10 (cN 4 (cN 0 (cL 0 (o_iload 1 1)) (cN 1 (cL 1 (o_if_ne 13 4)) (cL 4 (o_iload 5 2)))) (cN 6 (cN 5 (cL 5 (o_push 6 0)) (cL 6 (o_push 7 3))) (cN 7 (cL 7 (o_callS 10 3 tX10_in 0 0)) (cL 10 (o_goto 64))))) (cN 18 (cN 14 (cN 13 (cL 13 (o_iload 14 1)) (cL 14 (o_push 15 1))) (cN 15 (cL 15 (o_icmp_ne 28 18)) (cL 18 (o_iload 19 2)))) (cN 20 (cN 19 (cL 19 (o_push 20 0)) (cL 20 (o_push 22 20))) (cN 22 (cL 22 (o_callS 25 3 tX10_in 0 0)) (cL 25 (o_goto 64)))))) (cN 41 (cN 33 (cN 29 (cN 28 (cL 28 (o_iload 29 1)) (cL 29 (o_push 30 2))) (cN 30 (cL 30 (o_icmp_ne 44 33)) (cL 33 (o_iload 34 2)))) (cN 35 (cN 34 (cL 34 (o_push 35 5)) (cL 35 (o_push 38 200))) (cN 38 (cL 38 (o_callS 41 3 tX10_in 0 0)) (cL 41 (o_goto 64))))) (cN 49 (cN 45 (cN 44 (cL 44 (o_iload 45 1)) (cL 45 (o_push 46 3))) (cN 46 (cL 46 (o_icmp_ne 63 49)) (cL 49 (o_iload 50 2)))) (cN 51 (cN 50 (cL 50 (o_push 51 0)) (cL 51 (o_push 53 100))) (cN 53 (cL 53 (o_callS 56 3 tX10_in 0 0)) (cL 56 (o_if_eq 63 59))))))) (cN 84 (cN 70 (cN 64 (cN 60 (cN 59 (cL 59 (o_push 60 1)) (cL 60 (o_goto 64))) (cN 63 (cL 63 (o_push 64 0)) (cL 64 (o_istore 65 3)))) (cN 66 (cN 65 (cL 65 (o_aload 66 0)) (cL 66 (o_iload 67 3))) (cN 67 (cL 67 (o_if_eq 74 70)) (cL 70 (o_push 71 0))))) (cN 78 (cN 74 (cN 71 (cL 71 (o_goto 75)) (cL 74 (o_push 75 1))) (cN 75 (cL 75 (o_callV 78 8 1 tX10_throwsAt 0 0)) (cL 78 (o_if_eq 83 81)))) (cN 82 (cN 81 (cL 81 (o_push 82 0)) (cL 82 (o_iret))) (cN 83 (cL 83 (o_aload 84 0)) (cL 84 (o_callV 87 8 0 tX10_saves 0 0)))))) (cN 97 (cN 92 (cN 88 (cN 87 (cL 87 (o_aload 88 0)) (cL 88 (o_getf 91 8 0))) (cN 91 (cL 91 (o_push 92 2)) (cL 92 (o_iload 93 1)))) (cN 94 (cN 93 (cL 93 (o_iadd 94)) (cL 94 (o_iald 95))) (cN 95 (cL 95 (o_istore 97 4)) (cL 97 (o_aload 98 0))))) (cN 103 (cN 101 (cN 98 (cL 98 (o_getf 101 8 0)) (cL 101 (o_push 102 2))) (cN 102 (cL 102 (o_iload 103 1)) (cL 103 (o_iadd 104)))) (cN 105 (cN 104 (cL 104 (o_iload 105 2)) (cL 105 (o_iast 106))) (cN 106 (cL 106 (o_iload 108 4)) (cL 108 (o_iret)))))))
theorem sX10_set : ∀ pc, Snd tX10_set G1 pc (kX10_set pc) := s_N (s_N (s_N (s_N (s_N (s_L (s_iload_n dX10_set_0 rfl)) (s_N (s_L (s_o_if_ne dX10_set_1 (by decide))) (s_L (s_iload_n dX10_set_4 rfl)))) (s_N (s_N (s_L (s_iconst dX10_set_5 (by decide +kernel))) (s_L (s_iconst dX10_set_6 (by decide +kernel)))) (s_N (s_L (s_callS (d' := tX10_in) (mc := 0) (ms := 0) cc_X10_set_X10_in qw_1023 qw_1024 dX10_set_7)) (s_L (s_o_goto dX10_set_10 (by decide)))))) (s_N (s_N (s_N (s_L (s_iload_n dX10_set_13 rfl)) (s_L (s_iconst dX10_set_14 (by decide +kernel)))) (s_N (s_L (s_o_icmp_ne dX10_set_15 (by decide))) (s_L (s_iload_n dX10_set_18 rfl)))) (s_N (s_N (s_L (s_iconst dX10_set_19 (by decide +kernel))) (s_L (s_bipush dX10_set_20 (by decide +kernel)))) (s_N (s_L (s_callS (d' := tX10_in) (mc := 0) (ms := 0) cc_X10_set_X10_in qw_1023 qw_1024 dX10_set_22)) (s_L (s_o_goto dX10_set_25 (by decide))))))) (s_N (s_N (s_N (s_N (s_L (s_iload_n dX10_set_28 rfl)) (s_L (s_iconst dX10_set_29 (by decide +kernel)))) (s_N (s_L (s_o_icmp_ne dX10_set_30 (by decide))) (s_L (s_iload_n dX10_set_33 rfl)))) (s_N (s_N (s_L (s_iconst dX10_set_34 (by decide +kernel))) (s_L (s_sipush dX10_set_35 (by decide +kernel)))) (s_N (s_L (s_callS (d' := tX10_in) (mc := 0) (ms := 0) cc_X10_set_X10_in qw_1023 qw_1024 dX10_set_38)) (s_L (s_o_goto dX10_set_41 (by decide)))))) (s_N (s_N (s_N (s_L (s_iload_n dX10_set_44 rfl)) (s_L (s_iconst dX10_set_45 (by decide +kernel)))) (s_N (s_L (s_o_icmp_ne dX10_set_46 (by decide))) (s_L (s_iload_n dX10_set_49 rfl)))) (s_N (s_N (s_L (s_iconst dX10_set_50 (by decide +kernel))) (s_L (s_bipush dX10_set_51 (by decide +kernel)))) (s_N (s_L (s_callS (d' := tX10_in) (mc := 0) (ms := 0) cc_X10_set_X10_in qw_1023 qw_1024 dX10_set_53)) (s_L (s_o_if_eq dX10_set_56 (by decide)))))))) (s_N (s_N (s_N (s_N (s_N (s_L (s_iconst dX10_set_59 (by decide +kernel))) (s_L (s_o_goto dX10_set_60 (by decide)))) (s_N (s_L (s_iconst dX10_set_63 (by decide +kernel))) (s_L (s_istore_n dX10_set_64 rfl (by decide))))) (s_N (s_N (s_L (s_aload_n dX10_set_65 rfl)) (s_L (s_iload_n dX10_set_66 rfl))) (s_N (s_L (s_o_if_eq dX10_set_67 (by decide))) (s_L (s_iconst dX10_set_70 (by decide +kernel)))))) (s_N (s_N (s_N (s_L (s_o_goto dX10_set_71 (by decide))) (s_L (s_iconst dX10_set_74 (by decide +kernel)))) (s_N (s_L (s_callV (d' := tX10_throwsAt) (mc := 0) (ms := 0) ok_8 cc_X10_set_X10_throwsAt qw_1026 qw_1028 qw_31 dX10_set_75)) (s_L (s_o_if_eq dX10_set_78 (by decide))))) (s_N (s_N (s_L (s_iconst dX10_set_81 (by decide +kernel))) (s_L (s_iret rfl dX10_set_82))) (s_N (s_L (s_aload_n dX10_set_83 rfl)) (s_L (s_callV (d' := tX10_saves) (mc := 0) (ms := 0) ok_8 cc_X10_set_X10_saves qw_1030 qw_1032 qw_32 dX10_set_84)))))) (s_N (s_N (s_N (s_N (s_L (s_aload_n dX10_set_87 rfl)) (s_L (s_getf ok_8 (k := 0) (by decide) dX10_set_88 qw_972))) (s_N (s_L (s_iconst dX10_set_91 (by decide +kernel))) (s_L (s_iload_n dX10_set_92 rfl)))) (s_N (s_N (s_L (s_o_iadd dX10_set_93)) (s_L (s_iald dX10_set_94))) (s_N (s_L (s_istore dX10_set_95 (by decide))) (s_L (s_aload_n dX10_set_97 rfl))))) (s_N (s_N (s_N (s_L (s_getf ok_8 (k := 0) (by decide) dX10_set_98 qw_972)) (s_L (s_iconst dX10_set_101 (by decide +kernel)))) (s_N (s_L (s_iload_n dX10_set_102 rfl)) (s_L (s_o_iadd dX10_set_103)))) (s_N (s_N (s_L (s_iload_n dX10_set_104 rfl)) (s_L (s_iast dX10_set_105))) (s_N (s_L (s_iload dX10_set_106)) (s_L (s_iret rfl dX10_set_108)))))))
/-! PlateArmModel.pass -/
theorem dX10_pass_0 : decode cX10_pass 0 = .ok (.aload_n 0, 1) := by decide +kernel
theorem dX10_pass_1 : decode cX10_pass 1 = .ok (.iload_n 1, 1) := by decide +kernel
theorem dX10_pass_2 : decode cX10_pass 2 = .ok (.iconst 1, 1) := by decide +kernel
theorem dX10_pass_3 : decode cX10_pass 3 = .ok (.bipush 99, 2) := by decide +kernel
theorem dX10_pass_5 : decode cX10_pass 5 = .ok (.invokestatic 90, 3) := by decide +kernel
theorem dX10_pass_8 : decode cX10_pass 8 = .ok (.ifCond .ne 7, 3) := by decide +kernel
theorem dX10_pass_11 : decode cX10_pass 11 = .ok (.iconst 1, 1) := by decide +kernel
theorem dX10_pass_12 : decode cX10_pass 12 = .ok (.goto 23, 3) := by decide +kernel
theorem dX10_pass_15 : decode cX10_pass 15 = .ok (.aload_n 0, 1) := by decide +kernel
theorem dX10_pass_16 : decode cX10_pass 16 = .ok (.getfield 7, 3) := by decide +kernel
theorem dX10_pass_19 : decode cX10_pass 19 = .ok (.bipush 6, 2) := by decide +kernel
theorem dX10_pass_21 : decode cX10_pass 21 = .ok (.iaload, 1) := by decide +kernel
theorem dX10_pass_22 : decode cX10_pass 22 = .ok (.iload_n 1, 1) := by decide +kernel
theorem dX10_pass_23 : decode cX10_pass 23 = .ok (.iadd, 1) := by decide +kernel
theorem dX10_pass_24 : decode cX10_pass 24 = .ok (.sipush 9999, 3) := by decide +kernel
theorem dX10_pass_27 : decode cX10_pass 27 = .ok (.if_icmp .le 7, 3) := by decide +kernel
theorem dX10_pass_30 : decode cX10_pass 30 = .ok (.iconst 2, 1) := by decide +kernel
theorem dX10_pass_31 : decode cX10_pass 31 = .ok (.goto 4, 3) := by decide +kernel
theorem dX10_pass_34 : decode cX10_pass 34 = .ok (.iconst 0, 1) := by decide +kernel
theorem dX10_pass_35 : decode cX10_pass 35 = .ok (.invokevirtual 94, 3) := by decide +kernel
theorem dX10_pass_38 : decode cX10_pass 38 = .ok (.ifCond .eq 5, 3) := by decide +kernel
theorem dX10_pass_41 : decode cX10_pass 41 = .ok (.iconst 0, 1) := by decide +kernel
theorem dX10_pass_42 : decode cX10_pass 42 = .ok (.ireturn, 1) := by decide +kernel
theorem dX10_pass_43 : decode cX10_pass 43 = .ok (.aload_n 0, 1) := by decide +kernel
theorem dX10_pass_44 : decode cX10_pass 44 = .ok (.invokevirtual 98, 3) := by decide +kernel
theorem dX10_pass_47 : decode cX10_pass 47 = .ok (.aload_n 0, 1) := by decide +kernel
theorem dX10_pass_48 : decode cX10_pass 48 = .ok (.getfield 7, 3) := by decide +kernel
theorem dX10_pass_51 : decode cX10_pass 51 = .ok (.bipush 8, 2) := by decide +kernel
theorem dX10_pass_53 : decode cX10_pass 53 = .ok (.iaload, 1) := by decide +kernel
theorem dX10_pass_54 : decode cX10_pass 54 = .ok (.istore_n 2, 1) := by decide +kernel
theorem dX10_pass_55 : decode cX10_pass 55 = .ok (.iconst 0, 1) := by decide +kernel
theorem dX10_pass_56 : decode cX10_pass 56 = .ok (.istore_n 3, 1) := by decide +kernel
theorem dX10_pass_57 : decode cX10_pass 57 = .ok (.iload_n 3, 1) := by decide +kernel
theorem dX10_pass_58 : decode cX10_pass 58 = .ok (.iload_n 1, 1) := by decide +kernel
theorem dX10_pass_59 : decode cX10_pass 59 = .ok (.if_icmp .ge 13, 3) := by decide +kernel
theorem dX10_pass_62 : decode cX10_pass 62 = .ok (.aload_n 0, 1) := by decide +kernel
theorem dX10_pass_63 : decode cX10_pass 63 = .ok (.invokevirtual 104, 3) := by decide +kernel
theorem dX10_pass_66 : decode cX10_pass 66 = .ok (.iinc 3 1, 3) := by decide +kernel
theorem dX10_pass_69 : decode cX10_pass 69 = .ok (.goto (-12), 3) := by decide +kernel
theorem dX10_pass_72 : decode cX10_pass 72 = .ok (.aload_n 0, 1) := by decide +kernel
theorem dX10_pass_73 : decode cX10_pass 73 = .ok (.getfield 7, 3) := by decide +kernel
theorem dX10_pass_76 : decode cX10_pass 76 = .ok (.bipush 8, 2) := by decide +kernel
theorem dX10_pass_78 : decode cX10_pass 78 = .ok (.iaload, 1) := by decide +kernel
theorem dX10_pass_79 : decode cX10_pass 79 = .ok (.iload_n 2, 1) := by decide +kernel
theorem dX10_pass_80 : decode cX10_pass 80 = .ok (.isub, 1) := by decide +kernel
theorem dX10_pass_81 : decode cX10_pass 81 = .ok (.ireturn, 1) := by decide +kernel
theorem cc_X10_pass_X10_in : CallC tX10_pass tX10_in 3 := ⟨by decide +kernel, by decide +kernel, by decide +kernel, by decide, by decide, qw_80, qw_1025⟩
theorem cc_X10_pass_X10_throwsAt : CallC tX10_pass tX10_throwsAt 1 := ⟨by decide +kernel, by decide +kernel, by decide +kernel, by decide, by decide, qw_80, qw_1029⟩
theorem cc_X10_pass_X10_saves : CallC tX10_pass tX10_saves 0 := ⟨by decide +kernel, by decide +kernel, by decide +kernel, by decide, by decide, qw_80, qw_1033⟩
theorem cc_X10_pass_X10_ticks : CallC tX10_pass tX10_ticks 0 := ⟨by decide +kernel, by decide +kernel, by decide +kernel, by decide, by decide, qw_80, qw_1065⟩
def kX10_pass : Nat → WOp := cN 42 (cN 19 (cN 5 (cN 1 (cN 0 (cL 0 (o_aload 1 0)) (cL 1 (o_iload 2 1))) (cN 2 (cL 2 (o_push 3 1)) (cN 3 (cL 3 (o_push 5 99)) (cL 5 (o_callS 8 3 tX10_in 0 0))))) (cN 12 (cN 8 (cL 8 (o_if_ne 15 11)) (cN 11 (cL 11 (o_push 12 1)) (cL 12 (o_goto 35)))) (cN 15 (cL 15 (o_aload 16 0)) (cN 16 (cL 16 (o_getf 19 8 0)) (cL 19 (o_push 21 6)))))) (cN 30 (cN 23 (cN 21 (cL 21 (o_iald 22)) (cN 22 (cL 22 (o_iload 23 1)) (cL 23 (o_iadd 24)))) (cN 24 (cL 24 (o_push 27 9999)) (cN 27 (cL 27 (o_icmp_le 34 30)) (cL 30 (o_push 31 2))))) (cN 35 (cN 31 (cL 31 (o_goto 35)) (cN 34 (cL 34 (o_push 35 0)) (cL 35 (o_callV 38 8 1 tX10_throwsAt 0 0)))) (cN 38 (cL 38 (o_if_eq 43 41)) (cN 41 (cL 41 (o_push 42 0)) (cL 42 (o_iret))))))) (cN 58 (cN 51 (cN 44 (cN 43 (cL 43 (o_aload 44 0)) (cL 44 (o_callV 47 8 0 tX10_saves 0 0))) (cN 47 (cL 47 (o_aload 48 0)) (cN 48 (cL 48 (o_getf 51 8 0)) (cL 51 (o_push 53 8))))) (cN 55 (cN 53 (cL 53 (o_iald 54)) (cN 54 (cL 54 (o_istore 55 2)) (cL 55 (o_push 56 0)))) (cN 56 (cL 56 (o_istore 57 3)) (cN 57 (cL 57 (o_iload 58 3)) (cL 58 (o_iload 59 1)))))) (cN 72 (cN 63 (cN 59 (cL 59 (o_icmp_ge 72 62)) (cN 62 (cL 62 (o_aload 63 0)) (cL 63 (o_callV 66 8 0 tX10_ticks 0 0)))) (cN 66 (cL 66 (o_iinc 69 3 1)) (cN 69 (cL 69 (o_goto 57)) (cL 72 (o_aload 73 0))))) (cN 78 (cN 73 (cL 73 (o_getf 76 8 0)) (cN 76 (cL 76 (o_push 78 8)) (cL 78 (o_iald 79)))) (cN 79 (cL 79 (o_iload 80 2)) (cN 80 (cL 80 (o_isub 81)) (cL 81 (o_iret)))))))
theorem sX10_pass : ∀ pc, Snd tX10_pass G1 pc (kX10_pass pc) := s_N (s_N (s_N (s_N (s_N (s_L (s_aload_n dX10_pass_0 rfl)) (s_L (s_iload_n dX10_pass_1 rfl))) (s_N (s_L (s_iconst dX10_pass_2 (by decide +kernel))) (s_N (s_L (s_bipush dX10_pass_3 (by decide +kernel))) (s_L (s_callS (d' := tX10_in) (mc := 0) (ms := 0) cc_X10_pass_X10_in qw_1023 qw_1024 dX10_pass_5))))) (s_N (s_N (s_L (s_o_if_ne dX10_pass_8 (by decide))) (s_N (s_L (s_iconst dX10_pass_11 (by decide +kernel))) (s_L (s_o_goto dX10_pass_12 (by decide))))) (s_N (s_L (s_aload_n dX10_pass_15 rfl)) (s_N (s_L (s_getf ok_8 (k := 0) (by decide) dX10_pass_16 qw_972)) (s_L (s_bipush dX10_pass_19 (by decide +kernel))))))) (s_N (s_N (s_N (s_L (s_iald dX10_pass_21)) (s_N (s_L (s_iload_n dX10_pass_22 rfl)) (s_L (s_o_iadd dX10_pass_23)))) (s_N (s_L (s_sipush dX10_pass_24 (by decide +kernel))) (s_N (s_L (s_o_icmp_le dX10_pass_27 (by decide))) (s_L (s_iconst dX10_pass_30 (by decide +kernel)))))) (s_N (s_N (s_L (s_o_goto dX10_pass_31 (by decide))) (s_N (s_L (s_iconst dX10_pass_34 (by decide +kernel))) (s_L (s_callV (d' := tX10_throwsAt) (mc := 0) (ms := 0) ok_8 cc_X10_pass_X10_throwsAt qw_1026 qw_1028 qw_31 dX10_pass_35)))) (s_N (s_L (s_o_if_eq dX10_pass_38 (by decide))) (s_N (s_L (s_iconst dX10_pass_41 (by decide +kernel))) (s_L (s_iret rfl dX10_pass_42))))))) (s_N (s_N (s_N (s_N (s_L (s_aload_n dX10_pass_43 rfl)) (s_L (s_callV (d' := tX10_saves) (mc := 0) (ms := 0) ok_8 cc_X10_pass_X10_saves qw_1030 qw_1032 qw_32 dX10_pass_44))) (s_N (s_L (s_aload_n dX10_pass_47 rfl)) (s_N (s_L (s_getf ok_8 (k := 0) (by decide) dX10_pass_48 qw_972)) (s_L (s_bipush dX10_pass_51 (by decide +kernel)))))) (s_N (s_N (s_L (s_iald dX10_pass_53)) (s_N (s_L (s_istore_n dX10_pass_54 rfl (by decide))) (s_L (s_iconst dX10_pass_55 (by decide +kernel))))) (s_N (s_L (s_istore_n dX10_pass_56 rfl (by decide))) (s_N (s_L (s_iload_n dX10_pass_57 rfl)) (s_L (s_iload_n dX10_pass_58 rfl)))))) (s_N (s_N (s_N (s_L (s_o_icmp_ge dX10_pass_59 (by decide))) (s_N (s_L (s_aload_n dX10_pass_62 rfl)) (s_L (s_callV (d' := tX10_ticks) (mc := 0) (ms := 0) ok_8 cc_X10_pass_X10_ticks qw_1062 qw_1064 qw_36 dX10_pass_63)))) (s_N (s_L (s_iinc (v := 1) dX10_pass_66 (by decide +kernel) (by decide))) (s_N (s_L (s_o_goto dX10_pass_69 (by decide))) (s_L (s_aload_n dX10_pass_72 rfl))))) (s_N (s_N (s_L (s_getf ok_8 (k := 0) (by decide) dX10_pass_73 qw_972)) (s_N (s_L (s_bipush dX10_pass_76 (by decide +kernel))) (s_L (s_iald dX10_pass_78)))) (s_N (s_L (s_iload_n dX10_pass_79 rfl)) (s_N (s_L (s_o_isub dX10_pass_80)) (s_L (s_iret rfl dX10_pass_81)))))))
/-! PlateArmModel.finishes -/
theorem dX10_finishes_0 : decode cX10_finishes 0 = .ok (.iconst 0, 1) := by decide +kernel
theorem dX10_finishes_1 : decode cX10_finishes 1 = .ok (.istore_n 1, 1) := by decide +kernel
theorem dX10_finishes_2 : decode cX10_finishes 2 = .ok (.iload_n 1, 1) := by decide +kernel
theorem dX10_finishes_3 : decode cX10_finishes 3 = .ok (.sipush 500, 3) := by decide +kernel
theorem dX10_finishes_6 : decode cX10_finishes 6 = .ok (.if_icmp .ge 23, 3) := by decide +kernel
theorem dX10_finishes_9 : decode cX10_finishes 9 = .ok (.aload_n 0, 1) := by decide +kernel
theorem dX10_finishes_10 : decode cX10_finishes 10 = .ok (.getfield 7, 3) := by decide +kernel
theorem dX10_finishes_13 : decode cX10_finishes 13 = .ok (.bipush 21, 2) := by decide +kernel
theorem dX10_finishes_15 : decode cX10_finishes 15 = .ok (.iaload, 1) := by decide +kernel
theorem dX10_finishes_16 : decode cX10_finishes 16 = .ok (.ifCond .le 13, 3) := by decide +kernel
theorem dX10_finishes_19 : decode cX10_finishes 19 = .ok (.aload_n 0, 1) := by decide +kernel
theorem dX10_finishes_20 : decode cX10_finishes 20 = .ok (.invokevirtual 104, 3) := by decide +kernel
theorem dX10_finishes_23 : decode cX10_finishes 23 = .ok (.iinc 1 1, 3) := by decide +kernel
theorem dX10_finishes_26 : decode cX10_finishes 26 = .ok (.goto (-24), 3) := by decide +kernel
theorem dX10_finishes_29 : decode cX10_finishes 29 = .ok (.iload_n 1, 1) := by decide +kernel
theorem dX10_finishes_30 : decode cX10_finishes 30 = .ok (.ireturn, 1) := by decide +kernel
theorem cc_X10_finishes_X10_ticks : CallC tX10_finishes tX10_ticks 0 := ⟨by decide +kernel, by decide +kernel, by decide +kernel, by decide, by decide, qw_80, qw_1065⟩
def kX10_finishes : Nat → WOp := cN 13 (cN 3 (cN 1 (cN 0 (cL 0 (o_push 1 0)) (cL 1 (o_istore 2 1))) (cN 2 (cL 2 (o_iload 3 1)) (cL 3 (o_push 6 500)))) (cN 9 (cN 6 (cL 6 (o_icmp_ge 29 9)) (cL 9 (o_aload 10 0))) (cN 10 (cL 10 (o_getf 13 8 0)) (cL 13 (o_push 15 21))))) (cN 20 (cN 16 (cN 15 (cL 15 (o_iald 16)) (cL 16 (o_if_le 29 19))) (cN 19 (cL 19 (o_aload 20 0)) (cL 20 (o_callV 23 8 0 tX10_ticks 0 0)))) (cN 26 (cN 23 (cL 23 (o_iinc 26 1 1)) (cL 26 (o_goto 2))) (cN 29 (cL 29 (o_iload 30 1)) (cL 30 (o_iret)))))
theorem sX10_finishes : ∀ pc, Snd tX10_finishes G1 pc (kX10_finishes pc) := s_N (s_N (s_N (s_N (s_L (s_iconst dX10_finishes_0 (by decide +kernel))) (s_L (s_istore_n dX10_finishes_1 rfl (by decide)))) (s_N (s_L (s_iload_n dX10_finishes_2 rfl)) (s_L (s_sipush dX10_finishes_3 (by decide +kernel))))) (s_N (s_N (s_L (s_o_icmp_ge dX10_finishes_6 (by decide))) (s_L (s_aload_n dX10_finishes_9 rfl))) (s_N (s_L (s_getf ok_8 (k := 0) (by decide) dX10_finishes_10 qw_972)) (s_L (s_bipush dX10_finishes_13 (by decide +kernel)))))) (s_N (s_N (s_N (s_L (s_iald dX10_finishes_15)) (s_L (s_o_if_le dX10_finishes_16 (by decide)))) (s_N (s_L (s_aload_n dX10_finishes_19 rfl)) (s_L (s_callV (d' := tX10_ticks) (mc := 0) (ms := 0) ok_8 cc_X10_finishes_X10_ticks qw_1062 qw_1064 qw_36 dX10_finishes_20)))) (s_N (s_N (s_L (s_iinc (v := 1) dX10_finishes_23 (by decide +kernel) (by decide))) (s_L (s_o_goto dX10_finishes_26 (by decide)))) (s_N (s_L (s_iload_n dX10_finishes_29 rfl)) (s_L (s_iret rfl dX10_finishes_30)))))
/-! PlateArmModel.finish -/
theorem dX10_finish_0 : decode cX10_finish 0 = .ok (.aload_n 0, 1) := by decide +kernel
theorem dX10_finish_1 : decode cX10_finish 1 = .ok (.invokevirtual 107, 3) := by decide +kernel
theorem dX10_finish_4 : decode cX10_finish 4 = .ok (.aload_n 0, 1) := by decide +kernel
theorem dX10_finish_5 : decode cX10_finish 5 = .ok (.invokevirtual 110, 3) := by decide +kernel
theorem dX10_finish_8 : decode cX10_finish 8 = .ok (.istore_n 1, 1) := by decide +kernel
theorem dX10_finish_9 : decode cX10_finish 9 = .ok (.aload_n 0, 1) := by decide +kernel
theorem dX10_finish_10 : decode cX10_finish 10 = .ok (.getfield 7, 3) := by decide +kernel
theorem dX10_finish_13 : decode cX10_finish 13 = .ok (.bipush 6, 2) := by decide +kernel
theorem dX10_finish_15 : decode cX10_finish 15 = .ok (.iaload, 1) := by decide +kernel
theorem dX10_finish_16 : decode cX10_finish 16 = .ok (.istore_n 2, 1) := by decide +kernel
theorem dX10_finish_17 : decode cX10_finish 17 = .ok (.aload_n 0, 1) := by decide +kernel
theorem dX10_finish_18 : decode cX10_finish 18 = .ok (.invokevirtual 113, 3) := by decide +kernel
theorem dX10_finish_21 : decode cX10_finish 21 = .ok (.aload_n 0, 1) := by decide +kernel
theorem dX10_finish_22 : decode cX10_finish 22 = .ok (.iload_n 2, 1) := by decide +kernel
theorem dX10_finish_23 : decode cX10_finish 23 = .ok (.sipush 9999, 3) := by decide +kernel
theorem dX10_finish_26 : decode cX10_finish 26 = .ok (.if_icmp .le 7, 3) := by decide +kernel
theorem dX10_finish_29 : decode cX10_finish 29 = .ok (.iconst 1, 1) := by decide +kernel
theorem dX10_finish_30 : decode cX10_finish 30 = .ok (.goto 4, 3) := by decide +kernel
theorem dX10_finish_33 : decode cX10_finish 33 = .ok (.iconst 0, 1) := by decide +kernel
theorem dX10_finish_34 : decode cX10_finish 34 = .ok (.invokevirtual 94, 3) := by decide +kernel
theorem dX10_finish_37 : decode cX10_finish 37 = .ok (.ifCond .eq 5, 3) := by decide +kernel
theorem dX10_finish_40 : decode cX10_finish 40 = .ok (.iconst 0, 1) := by decide +kernel
theorem dX10_finish_41 : decode cX10_finish 41 = .ok (.ireturn, 1) := by decide +kernel
theorem dX10_finish_42 : decode cX10_finish 42 = .ok (.aload_n 0, 1) := by decide +kernel
theorem dX10_finish_43 : decode cX10_finish 43 = .ok (.invokevirtual 98, 3) := by decide +kernel
theorem dX10_finish_46 : decode cX10_finish 46 = .ok (.iload_n 1, 1) := by decide +kernel
theorem dX10_finish_47 : decode cX10_finish 47 = .ok (.ifCond .ne 7, 3) := by decide +kernel
theorem dX10_finish_50 : decode cX10_finish 50 = .ok (.iconst 0, 1) := by decide +kernel
theorem dX10_finish_51 : decode cX10_finish 51 = .ok (.goto 7, 3) := by decide +kernel
theorem dX10_finish_54 : decode cX10_finish 54 = .ok (.aload_n 0, 1) := by decide +kernel
theorem dX10_finish_55 : decode cX10_finish 55 = .ok (.invokevirtual 110, 3) := by decide +kernel
theorem dX10_finish_58 : decode cX10_finish 58 = .ok (.ireturn, 1) := by decide +kernel
theorem cc_X10_finish_X10_holds : CallC tX10_finish tX10_holds 0 := ⟨by decide +kernel, by decide +kernel, by decide +kernel, by decide, by decide, qw_80, qw_1120⟩
theorem cc_X10_finish_X10_finishes : CallC tX10_finish tX10_finishes 0 := ⟨by decide +kernel, by decide +kernel, by decide +kernel, by decide, by decide, qw_80, qw_1124⟩
theorem cc_X10_finish_X10_lets : CallC tX10_finish tX10_lets 0 := ⟨by decide +kernel, by decide +kernel, by decide +kernel, by decide, by decide, qw_80, qw_1128⟩
theorem cc_X10_finish_X10_throwsAt : CallC tX10_finish tX10_throwsAt 1 := ⟨by decide +kernel, by decide +kernel, by decide +kernel, by decide, by decide, qw_80, qw_1029⟩
theorem cc_X10_finish_X10_saves : CallC tX10_finish tX10_saves 0 := ⟨by decide +kernel, by decide +kernel, by decide +kernel, by decide, by decide, qw_80, qw_1033⟩
def kX10_finish : Nat → WOp := cN 26 (cN 13 (cN 5 (cN 1 (cN 0 (cL 0 (o_aload 1 0)) (cL 1 (o_callV 4 8 0 tX10_holds 0 0))) (cN 4 (cL 4 (o_aload 5 0)) (cL 5 (o_callV 8 8 0 tX10_finishes 0 0)))) (cN 9 (cN 8 (cL 8 (o_istore 9 1)) (cL 9 (o_aload 10 0))) (cN 10 (cL 10 (o_getf 13 8 0)) (cL 13 (o_push 15 6))))) (cN 18 (cN 16 (cN 15 (cL 15 (o_iald 16)) (cL 16 (o_istore 17 2))) (cN 17 (cL 17 (o_aload 18 0)) (cL 18 (o_callV 21 8 0 tX10_lets 0 0)))) (cN 22 (cN 21 (cL 21 (o_aload 22 0)) (cL 22 (o_iload 23 2))) (cN 23 (cL 23 (o_push 26 9999)) (cL 26 (o_icmp_le 33 29)))))) (cN 42 (cN 34 (cN 30 (cN 29 (cL 29 (o_push 30 1)) (cL 30 (o_goto 34))) (cN 33 (cL 33 (o_push 34 0)) (cL 34 (o_callV 37 8 1 tX10_throwsAt 0 0)))) (cN 40 (cN 37 (cL 37 (o_if_eq 42 40)) (cL 40 (o_push 41 0))) (cN 41 (cL 41 (o_iret)) (cL 42 (o_aload 43 0))))) (cN 50 (cN 46 (cN 43 (cL 43 (o_callV 46 8 0 tX10_saves 0 0)) (cL 46 (o_iload 47 1))) (cN 47 (cL 47 (o_if_ne 54 50)) (cL 50 (o_push 51 0)))) (cN 54 (cN 51 (cL 51 (o_goto 58)) (cL 54 (o_aload 55 0))) (cN 55 (cL 55 (o_callV 58 8 0 tX10_finishes 0 0)) (cL 58 (o_iret))))))
theorem sX10_finish : ∀ pc, Snd tX10_finish G1 pc (kX10_finish pc) := s_N (s_N (s_N (s_N (s_N (s_L (s_aload_n dX10_finish_0 rfl)) (s_L (s_callV (d' := tX10_holds) (mc := 0) (ms := 0) ok_8 cc_X10_finish_X10_holds qw_1117 qw_1119 qw_48 dX10_finish_1))) (s_N (s_L (s_aload_n dX10_finish_4 rfl)) (s_L (s_callV (d' := tX10_finishes) (mc := 0) (ms := 0) ok_8 cc_X10_finish_X10_finishes qw_1121 qw_1123 qw_49 dX10_finish_5)))) (s_N (s_N (s_L (s_istore_n dX10_finish_8 rfl (by decide))) (s_L (s_aload_n dX10_finish_9 rfl))) (s_N (s_L (s_getf ok_8 (k := 0) (by decide) dX10_finish_10 qw_972)) (s_L (s_bipush dX10_finish_13 (by decide +kernel)))))) (s_N (s_N (s_N (s_L (s_iald dX10_finish_15)) (s_L (s_istore_n dX10_finish_16 rfl (by decide)))) (s_N (s_L (s_aload_n dX10_finish_17 rfl)) (s_L (s_callV (d' := tX10_lets) (mc := 0) (ms := 0) ok_8 cc_X10_finish_X10_lets qw_1125 qw_1127 qw_50 dX10_finish_18)))) (s_N (s_N (s_L (s_aload_n dX10_finish_21 rfl)) (s_L (s_iload_n dX10_finish_22 rfl))) (s_N (s_L (s_sipush dX10_finish_23 (by decide +kernel))) (s_L (s_o_icmp_le dX10_finish_26 (by decide))))))) (s_N (s_N (s_N (s_N (s_L (s_iconst dX10_finish_29 (by decide +kernel))) (s_L (s_o_goto dX10_finish_30 (by decide)))) (s_N (s_L (s_iconst dX10_finish_33 (by decide +kernel))) (s_L (s_callV (d' := tX10_throwsAt) (mc := 0) (ms := 0) ok_8 cc_X10_finish_X10_throwsAt qw_1026 qw_1028 qw_31 dX10_finish_34)))) (s_N (s_N (s_L (s_o_if_eq dX10_finish_37 (by decide))) (s_L (s_iconst dX10_finish_40 (by decide +kernel)))) (s_N (s_L (s_iret rfl dX10_finish_41)) (s_L (s_aload_n dX10_finish_42 rfl))))) (s_N (s_N (s_N (s_L (s_callV (d' := tX10_saves) (mc := 0) (ms := 0) ok_8 cc_X10_finish_X10_saves qw_1030 qw_1032 qw_32 dX10_finish_43)) (s_L (s_iload_n dX10_finish_46 rfl))) (s_N (s_L (s_o_if_ne dX10_finish_47 (by decide))) (s_L (s_iconst dX10_finish_50 (by decide +kernel))))) (s_N (s_N (s_L (s_o_goto dX10_finish_51 (by decide))) (s_L (s_aload_n dX10_finish_54 rfl))) (s_N (s_L (s_callV (d' := tX10_finishes) (mc := 0) (ms := 0) ok_8 cc_X10_finish_X10_finishes qw_1121 qw_1123 qw_49 dX10_finish_55)) (s_L (s_iret rfl dX10_finish_58))))))
/-! PlateArmModel.told -/
theorem dX10_told_0 : decode cX10_told 0 = .ok (.iload_n 2, 1) := by decide +kernel
theorem dX10_told_1 : decode cX10_told 1 = .ok (.iconst 4, 1) := by decide +kernel
theorem dX10_told_2 : decode cX10_told 2 = .ok (.if_icmp .ge 14, 3) := by decide +kernel
theorem dX10_told_5 : decode cX10_told 5 = .ok (.aload_n 0, 1) := by decide +kernel
theorem dX10_told_6 : decode cX10_told 6 = .ok (.iload_n 1, 1) := by decide +kernel
theorem dX10_told_7 : decode cX10_told 7 = .ok (.iload_n 2, 1) := by decide +kernel
theorem dX10_told_8 : decode cX10_told 8 = .ok (.iconst 1, 1) := by decide +kernel
theorem dX10_told_9 : decode cX10_told 9 = .ok (.iadd, 1) := by decide +kernel
theorem dX10_told_10 : decode cX10_told 10 = .ok (.invokevirtual 39, 3) := by decide +kernel
theorem dX10_told_13 : decode cX10_told 13 = .ok (.goto 37, 3) := by decide +kernel
theorem dX10_told_16 : decode cX10_told 16 = .ok (.iload_n 2, 1) := by decide +kernel
theorem dX10_told_17 : decode cX10_told 17 = .ok (.iconst 4, 1) := by decide +kernel
theorem dX10_told_18 : decode cX10_told 18 = .ok (.if_icmp .ne 11, 3) := by decide +kernel
theorem dX10_told_21 : decode cX10_told 21 = .ok (.aload_n 0, 1) := by decide +kernel
theorem dX10_told_22 : decode cX10_told 22 = .ok (.iload_n 1, 1) := by decide +kernel
theorem dX10_told_23 : decode cX10_told 23 = .ok (.invokevirtual 51, 3) := by decide +kernel
theorem dX10_told_26 : decode cX10_told 26 = .ok (.goto 24, 3) := by decide +kernel
theorem dX10_told_29 : decode cX10_told 29 = .ok (.aload_n 0, 1) := by decide +kernel
theorem dX10_told_30 : decode cX10_told 30 = .ok (.getfield 7, 3) := by decide +kernel
theorem dX10_told_33 : decode cX10_told 33 = .ok (.bipush 6, 2) := by decide +kernel
theorem dX10_told_35 : decode cX10_told 35 = .ok (.iaload, 1) := by decide +kernel
theorem dX10_told_36 : decode cX10_told 36 = .ok (.aload_n 0, 1) := by decide +kernel
theorem dX10_told_37 : decode cX10_told 37 = .ok (.iload_n 1, 1) := by decide +kernel
theorem dX10_told_38 : decode cX10_told 38 = .ok (.iconst 3, 1) := by decide +kernel
theorem dX10_told_39 : decode cX10_told 39 = .ok (.invokevirtual 39, 3) := by decide +kernel
theorem dX10_told_42 : decode cX10_told 42 = .ok (.if_icmp .le 7, 3) := by decide +kernel
theorem dX10_told_45 : decode cX10_told 45 = .ok (.iconst 1, 1) := by decide +kernel
theorem dX10_told_46 : decode cX10_told 46 = .ok (.goto 4, 3) := by decide +kernel
theorem dX10_told_49 : decode cX10_told 49 = .ok (.iconst 0, 1) := by decide +kernel
theorem dX10_told_50 : decode cX10_told 50 = .ok (.ireturn, 1) := by decide +kernel
theorem cc_X10_told_X10_of : CallC tX10_told tX10_of 2 := ⟨by decide +kernel, by decide +kernel, by decide +kernel, by decide, by decide, qw_80, qw_1049⟩
theorem cc_X10_told_X10_far : CallC tX10_told tX10_far 1 := ⟨by decide +kernel, by decide +kernel, by decide +kernel, by decide, by decide, qw_80, qw_1085⟩
def kX10_told : Nat → WOp := cN 22 (cN 8 (cN 2 (cN 0 (cL 0 (o_iload 1 2)) (cN 1 (cL 1 (o_push 2 4)) (cL 2 (o_icmp_ge 16 5)))) (cN 6 (cN 5 (cL 5 (o_aload 6 0)) (cL 6 (o_iload 7 1))) (cN 7 (cL 7 (o_iload 8 2)) (cL 8 (o_push 9 1))))) (cN 16 (cN 10 (cN 9 (cL 9 (o_iadd 10)) (cL 10 (o_callV 13 8 2 tX10_of 0 0))) (cN 13 (cL 13 (o_goto 50)) (cL 16 (o_iload 17 2)))) (cN 18 (cN 17 (cL 17 (o_push 18 4)) (cL 18 (o_icmp_ne 29 21))) (cN 21 (cL 21 (o_aload 22 0)) (cL 22 (o_iload 23 1)))))) (cN 36 (cN 29 (cN 23 (cL 23 (o_callV 26 8 1 tX10_far 0 0)) (cN 26 (cL 26 (o_goto 50)) (cL 29 (o_aload 30 0)))) (cN 33 (cN 30 (cL 30 (o_getf 33 8 0)) (cL 33 (o_push 35 6))) (cN 35 (cL 35 (o_iald 36)) (cL 36 (o_aload 37 0))))) (cN 42 (cN 38 (cN 37 (cL 37 (o_iload 38 1)) (cL 38 (o_push 39 3))) (cN 39 (cL 39 (o_callV 42 8 2 tX10_of 0 0)) (cL 42 (o_icmp_le 49 45)))) (cN 46 (cN 45 (cL 45 (o_push 46 1)) (cL 46 (o_goto 50))) (cN 49 (cL 49 (o_push 50 0)) (cL 50 (o_iret))))))
theorem sX10_told : ∀ pc, Snd tX10_told G1 pc (kX10_told pc) := s_N (s_N (s_N (s_N (s_L (s_iload_n dX10_told_0 rfl)) (s_N (s_L (s_iconst dX10_told_1 (by decide +kernel))) (s_L (s_o_icmp_ge dX10_told_2 (by decide))))) (s_N (s_N (s_L (s_aload_n dX10_told_5 rfl)) (s_L (s_iload_n dX10_told_6 rfl))) (s_N (s_L (s_iload_n dX10_told_7 rfl)) (s_L (s_iconst dX10_told_8 (by decide +kernel)))))) (s_N (s_N (s_N (s_L (s_o_iadd dX10_told_9)) (s_L (s_callV (d' := tX10_of) (mc := 0) (ms := 0) ok_8 cc_X10_told_X10_of qw_1046 qw_1048 qw_34 dX10_told_10))) (s_N (s_L (s_o_goto dX10_told_13 (by decide))) (s_L (s_iload_n dX10_told_16 rfl)))) (s_N (s_N (s_L (s_iconst dX10_told_17 (by decide +kernel))) (s_L (s_o_icmp_ne dX10_told_18 (by decide)))) (s_N (s_L (s_aload_n dX10_told_21 rfl)) (s_L (s_iload_n dX10_told_22 rfl)))))) (s_N (s_N (s_N (s_L (s_callV (d' := tX10_far) (mc := 0) (ms := 0) ok_8 cc_X10_told_X10_far qw_1082 qw_1084 qw_41 dX10_told_23)) (s_N (s_L (s_o_goto dX10_told_26 (by decide))) (s_L (s_aload_n dX10_told_29 rfl)))) (s_N (s_N (s_L (s_getf ok_8 (k := 0) (by decide) dX10_told_30 qw_972)) (s_L (s_bipush dX10_told_33 (by decide +kernel)))) (s_N (s_L (s_iald dX10_told_35)) (s_L (s_aload_n dX10_told_36 rfl))))) (s_N (s_N (s_N (s_L (s_iload_n dX10_told_37 rfl)) (s_L (s_iconst dX10_told_38 (by decide +kernel)))) (s_N (s_L (s_callV (d' := tX10_of) (mc := 0) (ms := 0) ok_8 cc_X10_told_X10_of qw_1046 qw_1048 qw_34 dX10_told_39)) (s_L (s_o_icmp_le dX10_told_42 (by decide))))) (s_N (s_N (s_L (s_iconst dX10_told_45 (by decide +kernel))) (s_L (s_o_goto dX10_told_46 (by decide)))) (s_N (s_L (s_iconst dX10_told_49 (by decide +kernel))) (s_L (s_iret rfl dX10_told_50))))))
/-! PlateArmModel.requestOf -/
theorem dX10_requestOf_0 : decode cX10_requestOf 0 = .ok (.aload_n 0, 1) := by decide +kernel
theorem dX10_requestOf_1 : decode cX10_requestOf 1 = .ok (.iload_n 1, 1) := by decide +kernel
theorem dX10_requestOf_2 : decode cX10_requestOf 2 = .ok (.invokevirtual 101, 3) := by decide +kernel
theorem dX10_requestOf_5 : decode cX10_requestOf 5 = .ok (.istore_n 3, 1) := by decide +kernel
theorem dX10_requestOf_6 : decode cX10_requestOf 6 = .ok (.aload_n 0, 1) := by decide +kernel
theorem dX10_requestOf_7 : decode cX10_requestOf 7 = .ok (.iload_n 3, 1) := by decide +kernel
theorem dX10_requestOf_8 : decode cX10_requestOf 8 = .ok (.iconst (-1), 1) := by decide +kernel
theorem dX10_requestOf_9 : decode cX10_requestOf 9 = .ok (.if_icmp .ne 7, 3) := by decide +kernel
theorem dX10_requestOf_12 : decode cX10_requestOf 12 = .ok (.iconst 1, 1) := by decide +kernel
theorem dX10_requestOf_13 : decode cX10_requestOf 13 = .ok (.goto 17, 3) := by decide +kernel
theorem dX10_requestOf_16 : decode cX10_requestOf 16 = .ok (.iload_n 2, 1) := by decide +kernel
theorem dX10_requestOf_17 : decode cX10_requestOf 17 = .ok (.iconst 0, 1) := by decide +kernel
theorem dX10_requestOf_18 : decode cX10_requestOf 18 = .ok (.iconst 5, 1) := by decide +kernel
theorem dX10_requestOf_19 : decode cX10_requestOf 19 = .ok (.invokestatic 90, 3) := by decide +kernel
theorem dX10_requestOf_22 : decode cX10_requestOf 22 = .ok (.ifCond .eq 7, 3) := by decide +kernel
theorem dX10_requestOf_25 : decode cX10_requestOf 25 = .ok (.iconst 0, 1) := by decide +kernel
theorem dX10_requestOf_26 : decode cX10_requestOf 26 = .ok (.goto 4, 3) := by decide +kernel
theorem dX10_requestOf_29 : decode cX10_requestOf 29 = .ok (.iconst 2, 1) := by decide +kernel
theorem dX10_requestOf_30 : decode cX10_requestOf 30 = .ok (.invokevirtual 94, 3) := by decide +kernel
theorem dX10_requestOf_33 : decode cX10_requestOf 33 = .ok (.ifCond .eq 7, 3) := by decide +kernel
theorem dX10_requestOf_36 : decode cX10_requestOf 36 = .ok (.iconst 0, 1) := by decide +kernel
theorem dX10_requestOf_37 : decode cX10_requestOf 37 = .ok (.goto 9, 3) := by decide +kernel
theorem dX10_requestOf_40 : decode cX10_requestOf 40 = .ok (.aload_n 0, 1) := by decide +kernel
theorem dX10_requestOf_41 : decode cX10_requestOf 41 = .ok (.iload_n 3, 1) := by decide +kernel
theorem dX10_requestOf_42 : decode cX10_requestOf 42 = .ok (.iload_n 2, 1) := by decide +kernel
theorem dX10_requestOf_43 : decode cX10_requestOf 43 = .ok (.invokevirtual 116, 3) := by decide +kernel
theorem dX10_requestOf_46 : decode cX10_requestOf 46 = .ok (.ireturn, 1) := by decide +kernel
theorem cc_X10_requestOf_X10_placeOf : CallC tX10_requestOf tX10_placeOf 1 := ⟨by decide +kernel, by decide +kernel, by decide +kernel, by decide, by decide, qw_80, qw_1045⟩
theorem cc_X10_requestOf_X10_in : CallC tX10_requestOf tX10_in 3 := ⟨by decide +kernel, by decide +kernel, by decide +kernel, by decide, by decide, qw_80, qw_1025⟩
theorem cc_X10_requestOf_X10_throwsAt : CallC tX10_requestOf tX10_throwsAt 1 := ⟨by decide +kernel, by decide +kernel, by decide +kernel, by decide, by decide, qw_80, qw_1029⟩
theorem cc_X10_requestOf_X10_told : CallC tX10_requestOf tX10_told 2 := ⟨by decide +kernel, by decide +kernel, by decide +kernel, by decide, by decide, qw_80, qw_1136⟩
def kX10_requestOf : Nat → WOp := cN 18 (cN 7 (cN 2 (cN 0 (cL 0 (o_aload 1 0)) (cN 1 (cL 1 (o_iload 2 1)) (cL 2 (o_callV 5 8 1 tX10_placeOf 0 0)))) (cN 5 (cL 5 (o_istore 6 3)) (cN 6 (cL 6 (o_aload 7 0)) (cL 7 (o_iload 8 3))))) (cN 12 (cN 8 (cL 8 (o_push 9 (-1))) (cN 9 (cL 9 (o_icmp_ne 16 12)) (cL 12 (o_push 13 1)))) (cN 16 (cN 13 (cL 13 (o_goto 30)) (cL 16 (o_iload 17 2))) (cN 17 (cL 17 (o_push 18 0)) (cL 18 (o_push 19 5)))))) (cN 33 (cN 25 (cN 19 (cL 19 (o_callS 22 3 tX10_in 0 0)) (cN 22 (cL 22 (o_if_eq 29 25)) (cL 25 (o_push 26 0)))) (cN 29 (cN 26 (cL 26 (o_goto 30)) (cL 29 (o_push 30 2))) (cN 30 (cL 30 (o_callV 33 8 1 tX10_throwsAt 0 0)) (cL 33 (o_if_eq 40 36))))) (cN 40 (cN 36 (cL 36 (o_push 37 0)) (cN 37 (cL 37 (o_goto 46)) (cL 40 (o_aload 41 0)))) (cN 42 (cN 41 (cL 41 (o_iload 42 3)) (cL 42 (o_iload 43 2))) (cN 43 (cL 43 (o_callV 46 8 2 tX10_told 0 0)) (cL 46 (o_iret))))))
theorem sX10_requestOf : ∀ pc, Snd tX10_requestOf G1 pc (kX10_requestOf pc) := s_N (s_N (s_N (s_N (s_L (s_aload_n dX10_requestOf_0 rfl)) (s_N (s_L (s_iload_n dX10_requestOf_1 rfl)) (s_L (s_callV (d' := tX10_placeOf) (mc := 0) (ms := 0) ok_8 cc_X10_requestOf_X10_placeOf qw_1042 qw_1044 qw_33 dX10_requestOf_2)))) (s_N (s_L (s_istore_n dX10_requestOf_5 rfl (by decide))) (s_N (s_L (s_aload_n dX10_requestOf_6 rfl)) (s_L (s_iload_n dX10_requestOf_7 rfl))))) (s_N (s_N (s_L (s_iconst dX10_requestOf_8 (by decide +kernel))) (s_N (s_L (s_o_icmp_ne dX10_requestOf_9 (by decide))) (s_L (s_iconst dX10_requestOf_12 (by decide +kernel))))) (s_N (s_N (s_L (s_o_goto dX10_requestOf_13 (by decide))) (s_L (s_iload_n dX10_requestOf_16 rfl))) (s_N (s_L (s_iconst dX10_requestOf_17 (by decide +kernel))) (s_L (s_iconst dX10_requestOf_18 (by decide +kernel))))))) (s_N (s_N (s_N (s_L (s_callS (d' := tX10_in) (mc := 0) (ms := 0) cc_X10_requestOf_X10_in qw_1023 qw_1024 dX10_requestOf_19)) (s_N (s_L (s_o_if_eq dX10_requestOf_22 (by decide))) (s_L (s_iconst dX10_requestOf_25 (by decide +kernel))))) (s_N (s_N (s_L (s_o_goto dX10_requestOf_26 (by decide))) (s_L (s_iconst dX10_requestOf_29 (by decide +kernel)))) (s_N (s_L (s_callV (d' := tX10_throwsAt) (mc := 0) (ms := 0) ok_8 cc_X10_requestOf_X10_throwsAt qw_1026 qw_1028 qw_31 dX10_requestOf_30)) (s_L (s_o_if_eq dX10_requestOf_33 (by decide)))))) (s_N (s_N (s_L (s_iconst dX10_requestOf_36 (by decide +kernel))) (s_N (s_L (s_o_goto dX10_requestOf_37 (by decide))) (s_L (s_aload_n dX10_requestOf_40 rfl)))) (s_N (s_N (s_L (s_iload_n dX10_requestOf_41 rfl)) (s_L (s_iload_n dX10_requestOf_42 rfl))) (s_N (s_L (s_callV (d' := tX10_told) (mc := 0) (ms := 0) ok_8 cc_X10_requestOf_X10_told qw_1133 qw_1135 qw_51 dX10_requestOf_43)) (s_L (s_iret rfl dX10_requestOf_46))))))
/-! PlateArmModel.requestAt -/
theorem dX10_requestAt_0 : decode cX10_requestAt 0 = .ok (.aload_n 0, 1) := by decide +kernel
theorem dX10_requestAt_1 : decode cX10_requestAt 1 = .ok (.iload_n 1, 1) := by decide +kernel
theorem dX10_requestAt_2 : decode cX10_requestAt 2 = .ok (.ifCond .ge 7, 3) := by decide +kernel
theorem dX10_requestAt_5 : decode cX10_requestAt 5 = .ok (.iconst 1, 1) := by decide +kernel
theorem dX10_requestAt_6 : decode cX10_requestAt 6 = .ok (.goto 4, 3) := by decide +kernel
theorem dX10_requestAt_9 : decode cX10_requestAt 9 = .ok (.iconst 0, 1) := by decide +kernel
theorem dX10_requestAt_10 : decode cX10_requestAt 10 = .ok (.invokevirtual 94, 3) := by decide +kernel
theorem dX10_requestAt_13 : decode cX10_requestAt 13 = .ok (.ifCond .eq 5, 3) := by decide +kernel
theorem dX10_requestAt_16 : decode cX10_requestAt 16 = .ok (.iconst 0, 1) := by decide +kernel
theorem dX10_requestAt_17 : decode cX10_requestAt 17 = .ok (.ireturn, 1) := by decide +kernel
theorem dX10_requestAt_18 : decode cX10_requestAt 18 = .ok (.iload_n 1, 1) := by decide +kernel
theorem dX10_requestAt_19 : decode cX10_requestAt 19 = .ok (.aload_n 0, 1) := by decide +kernel
theorem dX10_requestAt_20 : decode cX10_requestAt 20 = .ok (.getfield 7, 3) := by decide +kernel
theorem dX10_requestAt_23 : decode cX10_requestAt 23 = .ok (.bipush 21, 2) := by decide +kernel
theorem dX10_requestAt_25 : decode cX10_requestAt 25 = .ok (.iaload, 1) := by decide +kernel
theorem dX10_requestAt_26 : decode cX10_requestAt 26 = .ok (.if_icmp .ge 12, 3) := by decide +kernel
theorem dX10_requestAt_29 : decode cX10_requestAt 29 = .ok (.aload_n 0, 1) := by decide +kernel
theorem dX10_requestAt_30 : decode cX10_requestAt 30 = .ok (.iload_n 1, 1) := by decide +kernel
theorem dX10_requestAt_31 : decode cX10_requestAt 31 = .ok (.iconst 0, 1) := by decide +kernel
theorem dX10_requestAt_32 : decode cX10_requestAt 32 = .ok (.invokevirtual 39, 3) := by decide +kernel
theorem dX10_requestAt_35 : decode cX10_requestAt 35 = .ok (.goto 4, 3) := by decide +kernel
theorem dX10_requestAt_38 : decode cX10_requestAt 38 = .ok (.iconst (-1), 1) := by decide +kernel
theorem dX10_requestAt_39 : decode cX10_requestAt 39 = .ok (.ireturn, 1) := by decide +kernel
theorem cc_X10_requestAt_X10_throwsAt : CallC tX10_requestAt tX10_throwsAt 1 := ⟨by decide +kernel, by decide +kernel, by decide +kernel, by decide, by decide, qw_80, qw_1029⟩
theorem cc_X10_requestAt_X10_of : CallC tX10_requestAt tX10_of 2 := ⟨by decide +kernel, by decide +kernel, by decide +kernel, by decide, by decide, qw_80, qw_1049⟩
def kX10_requestAt : Nat → WOp := cN 18 (cN 6 (cN 1 (cN 0 (cL 0 (o_aload 1 0)) (cL 1 (o_iload 2 1))) (cN 2 (cL 2 (o_if_ge 9 5)) (cN 5 (cL 5 (o_push 6 1)) (cL 6 (o_goto 10))))) (cN 13 (cN 9 (cL 9 (o_push 10 0)) (cN 10 (cL 10 (o_callV 13 8 1 tX10_throwsAt 0 0)) (cL 13 (o_if_eq 18 16)))) (cN 16 (cL 16 (o_push 17 0)) (cN 17 (cL 17 (o_iret)) (cL 18 (o_iload 19 1)))))) (cN 29 (cN 23 (cN 19 (cL 19 (o_aload 20 0)) (cN 20 (cL 20 (o_getf 23 8 0)) (cL 23 (o_push 25 21)))) (cN 25 (cL 25 (o_iald 26)) (cN 26 (cL 26 (o_icmp_ge 38 29)) (cL 29 (o_aload 30 0))))) (cN 32 (cN 30 (cL 30 (o_iload 31 1)) (cN 31 (cL 31 (o_push 32 0)) (cL 32 (o_callV 35 8 2 tX10_of 0 0)))) (cN 35 (cL 35 (o_goto 39)) (cN 38 (cL 38 (o_push 39 (-1))) (cL 39 (o_iret))))))
theorem sX10_requestAt : ∀ pc, Snd tX10_requestAt G1 pc (kX10_requestAt pc) := s_N (s_N (s_N (s_N (s_L (s_aload_n dX10_requestAt_0 rfl)) (s_L (s_iload_n dX10_requestAt_1 rfl))) (s_N (s_L (s_o_if_ge dX10_requestAt_2 (by decide))) (s_N (s_L (s_iconst dX10_requestAt_5 (by decide +kernel))) (s_L (s_o_goto dX10_requestAt_6 (by decide)))))) (s_N (s_N (s_L (s_iconst dX10_requestAt_9 (by decide +kernel))) (s_N (s_L (s_callV (d' := tX10_throwsAt) (mc := 0) (ms := 0) ok_8 cc_X10_requestAt_X10_throwsAt qw_1026 qw_1028 qw_31 dX10_requestAt_10)) (s_L (s_o_if_eq dX10_requestAt_13 (by decide))))) (s_N (s_L (s_iconst dX10_requestAt_16 (by decide +kernel))) (s_N (s_L (s_iret rfl dX10_requestAt_17)) (s_L (s_iload_n dX10_requestAt_18 rfl)))))) (s_N (s_N (s_N (s_L (s_aload_n dX10_requestAt_19 rfl)) (s_N (s_L (s_getf ok_8 (k := 0) (by decide) dX10_requestAt_20 qw_972)) (s_L (s_bipush dX10_requestAt_23 (by decide +kernel))))) (s_N (s_L (s_iald dX10_requestAt_25)) (s_N (s_L (s_o_icmp_ge dX10_requestAt_26 (by decide))) (s_L (s_aload_n dX10_requestAt_29 rfl))))) (s_N (s_N (s_L (s_iload_n dX10_requestAt_30 rfl)) (s_N (s_L (s_iconst dX10_requestAt_31 (by decide +kernel))) (s_L (s_callV (d' := tX10_of) (mc := 0) (ms := 0) ok_8 cc_X10_requestAt_X10_of qw_1046 qw_1048 qw_34 dX10_requestAt_32)))) (s_N (s_L (s_o_goto dX10_requestAt_35 (by decide))) (s_N (s_L (s_iconst dX10_requestAt_38 (by decide +kernel))) (s_L (s_iret rfl dX10_requestAt_39))))))
/-! PlateArmModel.logOf -/
theorem dX10_logOf_0 : decode cX10_logOf 0 = .ok (.iload_n 1, 1) := by decide +kernel
theorem dX10_logOf_1 : decode cX10_logOf 1 = .ok (.aload_n 0, 1) := by decide +kernel
theorem dX10_logOf_2 : decode cX10_logOf 2 = .ok (.getfield 7, 3) := by decide +kernel
theorem dX10_logOf_5 : decode cX10_logOf 5 = .ok (.bipush 22, 2) := by decide +kernel
theorem dX10_logOf_7 : decode cX10_logOf 7 = .ok (.iaload, 1) := by decide +kernel
theorem dX10_logOf_8 : decode cX10_logOf 8 = .ok (.if_icmp .ge 19, 3) := by decide +kernel
theorem dX10_logOf_11 : decode cX10_logOf 11 = .ok (.aload_n 0, 1) := by decide +kernel
theorem dX10_logOf_12 : decode cX10_logOf 12 = .ok (.getfield 7, 3) := by decide +kernel
theorem dX10_logOf_15 : decode cX10_logOf 15 = .ok (.bipush 83, 2) := by decide +kernel
theorem dX10_logOf_17 : decode cX10_logOf 17 = .ok (.iconst 5, 1) := by decide +kernel
theorem dX10_logOf_18 : decode cX10_logOf 18 = .ok (.iload_n 1, 1) := by decide +kernel
theorem dX10_logOf_19 : decode cX10_logOf 19 = .ok (.imul, 1) := by decide +kernel
theorem dX10_logOf_20 : decode cX10_logOf 20 = .ok (.iadd, 1) := by decide +kernel
theorem dX10_logOf_21 : decode cX10_logOf 21 = .ok (.iload_n 2, 1) := by decide +kernel
theorem dX10_logOf_22 : decode cX10_logOf 22 = .ok (.iadd, 1) := by decide +kernel
theorem dX10_logOf_23 : decode cX10_logOf 23 = .ok (.iaload, 1) := by decide +kernel
theorem dX10_logOf_24 : decode cX10_logOf 24 = .ok (.goto 4, 3) := by decide +kernel
theorem dX10_logOf_27 : decode cX10_logOf 27 = .ok (.iconst (-1), 1) := by decide +kernel
theorem dX10_logOf_28 : decode cX10_logOf 28 = .ok (.ireturn, 1) := by decide +kernel
def kX10_logOf : Nat → WOp := cN 15 (cN 5 (cN 1 (cN 0 (cL 0 (o_iload 1 1)) (cL 1 (o_aload 2 0))) (cN 2 (cL 2 (o_getf 5 8 0)) (cL 5 (o_push 7 22)))) (cN 8 (cN 7 (cL 7 (o_iald 8)) (cL 8 (o_icmp_ge 27 11))) (cN 11 (cL 11 (o_aload 12 0)) (cN 12 (cL 12 (o_getf 15 8 0)) (cL 15 (o_push 17 83)))))) (cN 21 (cN 18 (cN 17 (cL 17 (o_push 18 5)) (cL 18 (o_iload 19 1))) (cN 19 (cL 19 (o_imul 20)) (cN 20 (cL 20 (o_iadd 21)) (cL 21 (o_iload 22 2))))) (cN 23 (cN 22 (cL 22 (o_iadd 23)) (cL 23 (o_iald 24))) (cN 24 (cL 24 (o_goto 28)) (cN 27 (cL 27 (o_push 28 (-1))) (cL 28 (o_iret))))))
theorem sX10_logOf : ∀ pc, Snd tX10_logOf G1 pc (kX10_logOf pc) := s_N (s_N (s_N (s_N (s_L (s_iload_n dX10_logOf_0 rfl)) (s_L (s_aload_n dX10_logOf_1 rfl))) (s_N (s_L (s_getf ok_8 (k := 0) (by decide) dX10_logOf_2 qw_972)) (s_L (s_bipush dX10_logOf_5 (by decide +kernel))))) (s_N (s_N (s_L (s_iald dX10_logOf_7)) (s_L (s_o_icmp_ge dX10_logOf_8 (by decide)))) (s_N (s_L (s_aload_n dX10_logOf_11 rfl)) (s_N (s_L (s_getf ok_8 (k := 0) (by decide) dX10_logOf_12 qw_972)) (s_L (s_bipush dX10_logOf_15 (by decide +kernel))))))) (s_N (s_N (s_N (s_L (s_iconst dX10_logOf_17 (by decide +kernel))) (s_L (s_iload_n dX10_logOf_18 rfl))) (s_N (s_L (s_o_imul dX10_logOf_19)) (s_N (s_L (s_o_iadd dX10_logOf_20)) (s_L (s_iload_n dX10_logOf_21 rfl))))) (s_N (s_N (s_L (s_o_iadd dX10_logOf_22)) (s_L (s_iald dX10_logOf_23))) (s_N (s_L (s_o_goto dX10_logOf_24 (by decide))) (s_N (s_L (s_iconst dX10_logOf_27 (by decide +kernel))) (s_L (s_iret rfl dX10_logOf_28))))))
/-! PlateArmModel.logged -/
theorem dX10_logged_0 : decode cX10_logged 0 = .ok (.aload_n 0, 1) := by decide +kernel
theorem dX10_logged_1 : decode cX10_logged 1 = .ok (.iload_n 1, 1) := by decide +kernel
theorem dX10_logged_2 : decode cX10_logged 2 = .ok (.ifCond .lt 12, 3) := by decide +kernel
theorem dX10_logged_5 : decode cX10_logged 5 = .ok (.iload_n 2, 1) := by decide +kernel
theorem dX10_logged_6 : decode cX10_logged 6 = .ok (.iconst 0, 1) := by decide +kernel
theorem dX10_logged_7 : decode cX10_logged 7 = .ok (.iconst 4, 1) := by decide +kernel
theorem dX10_logged_8 : decode cX10_logged 8 = .ok (.invokestatic 90, 3) := by decide +kernel
theorem dX10_logged_11 : decode cX10_logged 11 = .ok (.ifCond .ne 7, 3) := by decide +kernel
theorem dX10_logged_14 : decode cX10_logged 14 = .ok (.iconst 1, 1) := by decide +kernel
theorem dX10_logged_15 : decode cX10_logged 15 = .ok (.goto 4, 3) := by decide +kernel
theorem dX10_logged_18 : decode cX10_logged 18 = .ok (.iconst 0, 1) := by decide +kernel
theorem dX10_logged_19 : decode cX10_logged 19 = .ok (.invokevirtual 94, 3) := by decide +kernel
theorem dX10_logged_22 : decode cX10_logged 22 = .ok (.ifCond .eq 7, 3) := by decide +kernel
theorem dX10_logged_25 : decode cX10_logged 25 = .ok (.iconst 0, 1) := by decide +kernel
theorem dX10_logged_26 : decode cX10_logged 26 = .ok (.goto 9, 3) := by decide +kernel
theorem dX10_logged_29 : decode cX10_logged 29 = .ok (.aload_n 0, 1) := by decide +kernel
theorem dX10_logged_30 : decode cX10_logged 30 = .ok (.iload_n 1, 1) := by decide +kernel
theorem dX10_logged_31 : decode cX10_logged 31 = .ok (.iload_n 2, 1) := by decide +kernel
theorem dX10_logged_32 : decode cX10_logged 32 = .ok (.invokevirtual 119, 3) := by decide +kernel
theorem dX10_logged_35 : decode cX10_logged 35 = .ok (.ireturn, 1) := by decide +kernel
theorem cc_X10_logged_X10_in : CallC tX10_logged tX10_in 3 := ⟨by decide +kernel, by decide +kernel, by decide +kernel, by decide, by decide, qw_80, qw_1025⟩
theorem cc_X10_logged_X10_throwsAt : CallC tX10_logged tX10_throwsAt 1 := ⟨by decide +kernel, by decide +kernel, by decide +kernel, by decide, by decide, qw_80, qw_1029⟩
theorem cc_X10_logged_X10_logOf : CallC tX10_logged tX10_logOf 2 := ⟨by decide +kernel, by decide +kernel, by decide +kernel, by decide, by decide, qw_80, qw_1148⟩
def kX10_logged : Nat → WOp := cN 15 (cN 6 (cN 1 (cN 0 (cL 0 (o_aload 1 0)) (cL 1 (o_iload 2 1))) (cN 2 (cL 2 (o_if_lt 14 5)) (cN 5 (cL 5 (o_iload 6 2)) (cL 6 (o_push 7 0))))) (cN 8 (cN 7 (cL 7 (o_push 8 4)) (cL 8 (o_callS 11 3 tX10_in 0 0))) (cN 11 (cL 11 (o_if_ne 18 14)) (cN 14 (cL 14 (o_push 15 1)) (cL 15 (o_goto 19)))))) (cN 26 (cN 19 (cN 18 (cL 18 (o_push 19 0)) (cL 19 (o_callV 22 8 1 tX10_throwsAt 0 0))) (cN 22 (cL 22 (o_if_eq 29 25)) (cN 25 (cL 25 (o_push 26 0)) (cL 26 (o_goto 35))))) (cN 30 (cN 29 (cL 29 (o_aload 30 0)) (cL 30 (o_iload 31 1))) (cN 31 (cL 31 (o_iload 32 2)) (cN 32 (cL 32 (o_callV 35 8 2 tX10_logOf 0 0)) (cL 35 (o_iret))))))
theorem sX10_logged : ∀ pc, Snd tX10_logged G1 pc (kX10_logged pc) := s_N (s_N (s_N (s_N (s_L (s_aload_n dX10_logged_0 rfl)) (s_L (s_iload_n dX10_logged_1 rfl))) (s_N (s_L (s_o_if_lt dX10_logged_2 (by decide))) (s_N (s_L (s_iload_n dX10_logged_5 rfl)) (s_L (s_iconst dX10_logged_6 (by decide +kernel)))))) (s_N (s_N (s_L (s_iconst dX10_logged_7 (by decide +kernel))) (s_L (s_callS (d' := tX10_in) (mc := 0) (ms := 0) cc_X10_logged_X10_in qw_1023 qw_1024 dX10_logged_8))) (s_N (s_L (s_o_if_ne dX10_logged_11 (by decide))) (s_N (s_L (s_iconst dX10_logged_14 (by decide +kernel))) (s_L (s_o_goto dX10_logged_15 (by decide))))))) (s_N (s_N (s_N (s_L (s_iconst dX10_logged_18 (by decide +kernel))) (s_L (s_callV (d' := tX10_throwsAt) (mc := 0) (ms := 0) ok_8 cc_X10_logged_X10_throwsAt qw_1026 qw_1028 qw_31 dX10_logged_19))) (s_N (s_L (s_o_if_eq dX10_logged_22 (by decide))) (s_N (s_L (s_iconst dX10_logged_25 (by decide +kernel))) (s_L (s_o_goto dX10_logged_26 (by decide)))))) (s_N (s_N (s_L (s_aload_n dX10_logged_29 rfl)) (s_L (s_iload_n dX10_logged_30 rfl))) (s_N (s_L (s_iload_n dX10_logged_31 rfl)) (s_N (s_L (s_callV (d' := tX10_logOf) (mc := 0) (ms := 0) ok_8 cc_X10_logged_X10_logOf qw_1145 qw_1147 qw_52 dX10_logged_32)) (s_L (s_iret rfl dX10_logged_35))))))
