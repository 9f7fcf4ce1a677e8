/-! PlateArmModel.armOf -/
theorem dX10_armOf_0 : decode cX10_armOf 0 = .ok (.iload_n 1, 1) := by decide +kernel
theorem dX10_armOf_1 : decode cX10_armOf 1 = .ok (.iconst 5, 1) := by decide +kernel
theorem dX10_armOf_2 : decode cX10_armOf 2 = .ok (.if_icmp .ge 15, 3) := by decide +kernel
theorem dX10_armOf_5 : decode cX10_armOf 5 = .ok (.aload_n 0, 1) := by decide +kernel
theorem dX10_armOf_6 : decode cX10_armOf 6 = .ok (.getfield 7, 3) := by decide +kernel
theorem dX10_armOf_9 : decode cX10_armOf 9 = .ok (.bipush 16, 2) := by decide +kernel
theorem dX10_armOf_11 : decode cX10_armOf 11 = .ok (.iload_n 1, 1) := by decide +kernel
theorem dX10_armOf_12 : decode cX10_armOf 12 = .ok (.iadd, 1) := by decide +kernel
theorem dX10_armOf_13 : decode cX10_armOf 13 = .ok (.iaload, 1) := by decide +kernel
theorem dX10_armOf_14 : decode cX10_armOf 14 = .ok (.goto 17, 3) := by decide +kernel
theorem dX10_armOf_17 : decode cX10_armOf 17 = .ok (.aload_n 0, 1) := by decide +kernel
theorem dX10_armOf_18 : decode cX10_armOf 18 = .ok (.getfield 7, 3) := by decide +kernel
theorem dX10_armOf_21 : decode cX10_armOf 21 = .ok (.bipush 6, 2) := by decide +kernel
theorem dX10_armOf_23 : decode cX10_armOf 23 = .ok (.iaload, 1) := by decide +kernel
theorem dX10_armOf_24 : decode cX10_armOf 24 = .ok (.aload_n 0, 1) := by decide +kernel
theorem dX10_armOf_25 : decode cX10_armOf 25 = .ok (.getfield 7, 3) := by decide +kernel
theorem dX10_armOf_28 : decode cX10_armOf 28 = .ok (.iconst 1, 1) := by decide +kernel
theorem dX10_armOf_29 : decode cX10_armOf 29 = .ok (.iaload, 1) := by decide +kernel
theorem dX10_armOf_30 : decode cX10_armOf 30 = .ok (.irem, 1) := by decide +kernel
theorem dX10_armOf_31 : decode cX10_armOf 31 = .ok (.ireturn, 1) := by decide +kernel
def kX10_armOf : Nat → WOp := cN 14 (cN 6 (cN 1 (cN 0 (cL 0 (o_iload 1 1)) (cL 1 (o_push 2 5))) (cN 2 (cL 2 (o_icmp_ge 17 5)) (cN 5 (cL 5 (o_aload 6 0)) (cL 6 (o_getf 9 8 0))))) (cN 11 (cN 9 (cL 9 (o_push 11 16)) (cL 11 (o_iload 12 1))) (cN 12 (cL 12 (o_iadd 13)) (cN 13 (cL 13 (o_iald 14)) (cL 14 (o_goto 31)))))) (cN 24 (cN 18 (cN 17 (cL 17 (o_aload 18 0)) (cL 18 (o_getf 21 8 0))) (cN 21 (cL 21 (o_push 23 6)) (cN 23 (cL 23 (o_iald 24)) (cL 24 (o_aload 25 0))))) (cN 28 (cN 25 (cL 25 (o_getf 28 8 0)) (cL 28 (o_push 29 1))) (cN 29 (cL 29 (o_iald 30)) (cN 30 (cL 30 (o_irem 31)) (cL 31 (o_iret))))))
theorem sX10_armOf : ∀ pc, Snd tX10_armOf G1 pc (kX10_armOf pc) := s_N (s_N (s_N (s_N (s_L (s_iload_n dX10_armOf_0 rfl)) (s_L (s_iconst dX10_armOf_1 (by decide +kernel)))) (s_N (s_L (s_o_icmp_ge dX10_armOf_2 (by decide))) (s_N (s_L (s_aload_n dX10_armOf_5 rfl)) (s_L (s_getf ok_8 (k := 0) (by decide) dX10_armOf_6 qw_972))))) (s_N (s_N (s_L (s_bipush dX10_armOf_9 (by decide +kernel))) (s_L (s_iload_n dX10_armOf_11 rfl))) (s_N (s_L (s_o_iadd dX10_armOf_12)) (s_N (s_L (s_iald dX10_armOf_13)) (s_L (s_o_goto dX10_armOf_14 (by decide))))))) (s_N (s_N (s_N (s_L (s_aload_n dX10_armOf_17 rfl)) (s_L (s_getf ok_8 (k := 0) (by decide) dX10_armOf_18 qw_972))) (s_N (s_L (s_bipush dX10_armOf_21 (by decide +kernel))) (s_N (s_L (s_iald dX10_armOf_23)) (s_L (s_aload_n dX10_armOf_24 rfl))))) (s_N (s_N (s_L (s_getf ok_8 (k := 0) (by decide) dX10_armOf_25 qw_972)) (s_L (s_iconst dX10_armOf_28 (by decide +kernel)))) (s_N (s_L (s_iald dX10_armOf_29)) (s_N (s_L (s_o_irem dX10_armOf_30)) (s_L (s_iret rfl dX10_armOf_31))))))
/-! PlateArmModel.arm -/
theorem dX10_arm_0 : decode cX10_arm 0 = .ok (.aload_n 0, 1) := by decide +kernel
theorem dX10_arm_1 : decode cX10_arm 1 = .ok (.iload_n 1, 1) := by decide +kernel
theorem dX10_arm_2 : decode cX10_arm 2 = .ok (.iconst 0, 1) := by decide +kernel
theorem dX10_arm_3 : decode cX10_arm 3 = .ok (.iconst 5, 1) := by decide +kernel
theorem dX10_arm_4 : decode cX10_arm 4 = .ok (.invokestatic 90, 3) := by decide +kernel
theorem dX10_arm_7 : decode cX10_arm 7 = .ok (.ifCond .eq 7, 3) := by decide +kernel
theorem dX10_arm_10 : decode cX10_arm 10 = .ok (.iconst 0, 1) := by decide +kernel
theorem dX10_arm_11 : decode cX10_arm 11 = .ok (.goto 4, 3) := by decide +kernel
theorem dX10_arm_14 : decode cX10_arm 14 = .ok (.iconst 1, 1) := by decide +kernel
theorem dX10_arm_15 : decode cX10_arm 15 = .ok (.invokevirtual 94, 3) := by decide +kernel
theorem dX10_arm_18 : decode cX10_arm 18 = .ok (.ifCond .eq 7, 3) := by decide +kernel
theorem dX10_arm_21 : decode cX10_arm 21 = .ok (.iconst 0, 1) := by decide +kernel
theorem dX10_arm_22 : decode cX10_arm 22 = .ok (.goto 8, 3) := by decide +kernel
theorem dX10_arm_25 : decode cX10_arm 25 = .ok (.aload_n 0, 1) := by decide +kernel
theorem dX10_arm_26 : decode cX10_arm 26 = .ok (.iload_n 1, 1) := by decide +kernel
theorem dX10_arm_27 : decode cX10_arm 27 = .ok (.invokevirtual 122, 3) := by decide +kernel
theorem dX10_arm_30 : decode cX10_arm 30 = .ok (.ireturn, 1) := by decide +kernel
theorem cc_X10_arm_X10_in : CallC tX10_arm tX10_in 3 := ⟨by decide +kernel, by decide +kernel, by decide +kernel, by decide, by decide, qw_80, qw_1025⟩
theorem cc_X10_arm_X10_throwsAt : CallC tX10_arm tX10_throwsAt 1 := ⟨by decide +kernel, by decide +kernel, by decide +kernel, by decide, by decide, qw_80, qw_1029⟩
theorem cc_X10_arm_X10_armOf : CallC tX10_arm tX10_armOf 1 := ⟨by decide +kernel, by decide +kernel, by decide +kernel, by decide, by decide, qw_80, qw_1156⟩
def kX10_arm : Nat → WOp := cN 11 (cN 3 (cN 1 (cN 0 (cL 0 (o_aload 1 0)) (cL 1 (o_iload 2 1))) (cN 2 (cL 2 (o_push 3 0)) (cL 3 (o_push 4 5)))) (cN 7 (cN 4 (cL 4 (o_callS 7 3 tX10_in 0 0)) (cL 7 (o_if_eq 14 10))) (cN 10 (cL 10 (o_push 11 0)) (cL 11 (o_goto 15))))) (cN 21 (cN 15 (cN 14 (cL 14 (o_push 15 1)) (cL 15 (o_callV 18 8 1 tX10_throwsAt 0 0))) (cN 18 (cL 18 (o_if_eq 25 21)) (cL 21 (o_push 22 0)))) (cN 25 (cN 22 (cL 22 (o_goto 30)) (cL 25 (o_aload 26 0))) (cN 26 (cL 26 (o_iload 27 1)) (cN 27 (cL 27 (o_callV 30 8 1 tX10_armOf 0 0)) (cL 30 (o_iret))))))
theorem sX10_arm : ∀ pc, Snd tX10_arm G1 pc (kX10_arm pc) := s_N (s_N (s_N (s_N (s_L (s_aload_n dX10_arm_0 rfl)) (s_L (s_iload_n dX10_arm_1 rfl))) (s_N (s_L (s_iconst dX10_arm_2 (by decide +kernel))) (s_L (s_iconst dX10_arm_3 (by decide +kernel))))) (s_N (s_N (s_L (s_callS (d' := tX10_in) (mc := 0) (ms := 0) cc_X10_arm_X10_in qw_1023 qw_1024 dX10_arm_4)) (s_L (s_o_if_eq dX10_arm_7 (by decide)))) (s_N (s_L (s_iconst dX10_arm_10 (by decide +kernel))) (s_L (s_o_goto dX10_arm_11 (by decide)))))) (s_N (s_N (s_N (s_L (s_iconst dX10_arm_14 (by decide +kernel))) (s_L (s_callV (d' := tX10_throwsAt) (mc := 0) (ms := 0) ok_8 cc_X10_arm_X10_throwsAt qw_1026 qw_1028 qw_31 dX10_arm_15))) (s_N (s_L (s_o_if_eq dX10_arm_18 (by decide))) (s_L (s_iconst dX10_arm_21 (by decide +kernel))))) (s_N (s_N (s_L (s_o_goto dX10_arm_22 (by decide))) (s_L (s_aload_n dX10_arm_25 rfl))) (s_N (s_L (s_iload_n dX10_arm_26 rfl)) (s_N (s_L (s_callV (d' := tX10_armOf) (mc := 0) (ms := 0) ok_8 cc_X10_arm_X10_armOf qw_1153 qw_1155 qw_53 dX10_arm_27)) (s_L (s_iret rfl dX10_arm_30))))))
/-! PlateArmModel.wholeOf -/
theorem dX10_wholeOf_0 : decode cX10_wholeOf 0 = .ok (.iload_n 1, 1) := by decide +kernel
theorem dX10_wholeOf_1 : decode cX10_wholeOf 1 = .ok (.bipush 7, 2) := by decide +kernel
theorem dX10_wholeOf_3 : decode cX10_wholeOf 3 = .ok (.if_icmp .ge 12, 3) := by decide +kernel
theorem dX10_wholeOf_6 : decode cX10_wholeOf 6 = .ok (.aload_n 0, 1) := by decide +kernel
theorem dX10_wholeOf_7 : decode cX10_wholeOf 7 = .ok (.getfield 7, 3) := by decide +kernel
theorem dX10_wholeOf_10 : decode cX10_wholeOf 10 = .ok (.iload_n 1, 1) := by decide +kernel
theorem dX10_wholeOf_11 : decode cX10_wholeOf 11 = .ok (.iaload, 1) := by decide +kernel
theorem dX10_wholeOf_12 : decode cX10_wholeOf 12 = .ok (.goto 40, 3) := by decide +kernel
theorem dX10_wholeOf_15 : decode cX10_wholeOf 15 = .ok (.iload_n 1, 1) := by decide +kernel
theorem dX10_wholeOf_16 : decode cX10_wholeOf 16 = .ok (.bipush 7, 2) := by decide +kernel
theorem dX10_wholeOf_18 : decode cX10_wholeOf 18 = .ok (.if_icmp .ne 13, 3) := by decide +kernel
theorem dX10_wholeOf_21 : decode cX10_wholeOf 21 = .ok (.aload_n 0, 1) := by decide +kernel
theorem dX10_wholeOf_22 : decode cX10_wholeOf 22 = .ok (.getfield 7, 3) := by decide +kernel
theorem dX10_wholeOf_25 : decode cX10_wholeOf 25 = .ok (.bipush 21, 2) := by decide +kernel
theorem dX10_wholeOf_27 : decode cX10_wholeOf 27 = .ok (.iaload, 1) := by decide +kernel
theorem dX10_wholeOf_28 : decode cX10_wholeOf 28 = .ok (.goto 24, 3) := by decide +kernel
theorem dX10_wholeOf_31 : decode cX10_wholeOf 31 = .ok (.iload_n 1, 1) := by decide +kernel
theorem dX10_wholeOf_32 : decode cX10_wholeOf 32 = .ok (.bipush 17, 2) := by decide +kernel
theorem dX10_wholeOf_34 : decode cX10_wholeOf 34 = .ok (.if_icmp .ne 10, 3) := by decide +kernel
theorem dX10_wholeOf_37 : decode cX10_wholeOf 37 = .ok (.aload_n 0, 1) := by decide +kernel
theorem dX10_wholeOf_38 : decode cX10_wholeOf 38 = .ok (.getfield 125, 3) := by decide +kernel
theorem dX10_wholeOf_41 : decode cX10_wholeOf 41 = .ok (.goto 11, 3) := by decide +kernel
theorem dX10_wholeOf_44 : decode cX10_wholeOf 44 = .ok (.aload_n 0, 1) := by decide +kernel
theorem dX10_wholeOf_45 : decode cX10_wholeOf 45 = .ok (.getfield 7, 3) := by decide +kernel
theorem dX10_wholeOf_48 : decode cX10_wholeOf 48 = .ok (.iload_n 1, 1) := by decide +kernel
theorem dX10_wholeOf_49 : decode cX10_wholeOf 49 = .ok (.iconst 1, 1) := by decide +kernel
theorem dX10_wholeOf_50 : decode cX10_wholeOf 50 = .ok (.isub, 1) := by decide +kernel
theorem dX10_wholeOf_51 : decode cX10_wholeOf 51 = .ok (.iaload, 1) := by decide +kernel
theorem dX10_wholeOf_52 : decode cX10_wholeOf 52 = .ok (.ireturn, 1) := by decide +kernel
def kX10_wholeOf : Nat → WOp := cN 25 (cN 11 (cN 3 (cN 0 (cL 0 (o_iload 1 1)) (cN 1 (cL 1 (o_push 3 7)) (cL 3 (o_icmp_ge 15 6)))) (cN 7 (cN 6 (cL 6 (o_aload 7 0)) (cL 7 (o_getf 10 8 0))) (cN 10 (cL 10 (o_iload 11 1)) (cL 11 (o_iald 12))))) (cN 16 (cN 12 (cL 12 (o_goto 52)) (cN 15 (cL 15 (o_iload 16 1)) (cL 16 (o_push 18 7)))) (cN 21 (cN 18 (cL 18 (o_icmp_ne 31 21)) (cL 21 (o_aload 22 0))) (cN 22 (cL 22 (o_getf 25 8 0)) (cL 25 (o_push 27 21)))))) (cN 38 (cN 31 (cN 27 (cL 27 (o_iald 28)) (cN 28 (cL 28 (o_goto 52)) (cL 31 (o_iload 32 1)))) (cN 34 (cN 32 (cL 32 (o_push 34 17)) (cL 34 (o_icmp_ne 44 37))) (cN 37 (cL 37 (o_aload 38 0)) (cL 38 (o_getf 41 8 6))))) (cN 48 (cN 44 (cN 41 (cL 41 (o_goto 52)) (cL 44 (o_aload 45 0))) (cN 45 (cL 45 (o_getf 48 8 0)) (cL 48 (o_iload 49 1)))) (cN 50 (cN 49 (cL 49 (o_push 50 1)) (cL 50 (o_isub 51))) (cN 51 (cL 51 (o_iald 52)) (cL 52 (o_iret))))))
theorem sX10_wholeOf : ∀ pc, Snd tX10_wholeOf G1 pc (kX10_wholeOf pc) := s_N (s_N (s_N (s_N (s_L (s_iload_n dX10_wholeOf_0 rfl)) (s_N (s_L (s_bipush dX10_wholeOf_1 (by decide +kernel))) (s_L (s_o_icmp_ge dX10_wholeOf_3 (by decide))))) (s_N (s_N (s_L (s_aload_n dX10_wholeOf_6 rfl)) (s_L (s_getf ok_8 (k := 0) (by decide) dX10_wholeOf_7 qw_972))) (s_N (s_L (s_iload_n dX10_wholeOf_10 rfl)) (s_L (s_iald dX10_wholeOf_11))))) (s_N (s_N (s_L (s_o_goto dX10_wholeOf_12 (by decide))) (s_N (s_L (s_iload_n dX10_wholeOf_15 rfl)) (s_L (s_bipush dX10_wholeOf_16 (by decide +kernel))))) (s_N (s_N (s_L (s_o_icmp_ne dX10_wholeOf_18 (by decide))) (s_L (s_aload_n dX10_wholeOf_21 rfl))) (s_N (s_L (s_getf ok_8 (k := 0) (by decide) dX10_wholeOf_22 qw_972)) (s_L (s_bipush dX10_wholeOf_25 (by decide +kernel))))))) (s_N (s_N (s_N (s_L (s_iald dX10_wholeOf_27)) (s_N (s_L (s_o_goto dX10_wholeOf_28 (by decide))) (s_L (s_iload_n dX10_wholeOf_31 rfl)))) (s_N (s_N (s_L (s_bipush dX10_wholeOf_32 (by decide +kernel))) (s_L (s_o_icmp_ne dX10_wholeOf_34 (by decide)))) (s_N (s_L (s_aload_n dX10_wholeOf_37 rfl)) (s_L (s_getf ok_8 (k := 6) (by decide) dX10_wholeOf_38 qw_978))))) (s_N (s_N (s_N (s_L (s_o_goto dX10_wholeOf_41 (by decide))) (s_L (s_aload_n dX10_wholeOf_44 rfl))) (s_N (s_L (s_getf ok_8 (k := 0) (by decide) dX10_wholeOf_45 qw_972)) (s_L (s_iload_n dX10_wholeOf_48 rfl)))) (s_N (s_N (s_L (s_iconst dX10_wholeOf_49 (by decide +kernel))) (s_L (s_o_isub dX10_wholeOf_50))) (s_N (s_L (s_iald dX10_wholeOf_51)) (s_L (s_iret rfl dX10_wholeOf_52))))))
/-! PlateArmModel.whole -/
theorem dX10_whole_0 : decode cX10_whole 0 = .ok (.aload_n 0, 1) := by decide +kernel
theorem dX10_whole_1 : decode cX10_whole 1 = .ok (.iload_n 1, 1) := by decide +kernel
theorem dX10_whole_2 : decode cX10_whole 2 = .ok (.iconst 0, 1) := by decide +kernel
theorem dX10_whole_3 : decode cX10_whole 3 = .ok (.bipush 17, 2) := by decide +kernel
theorem dX10_whole_5 : decode cX10_whole 5 = .ok (.invokestatic 90, 3) := by decide +kernel
theorem dX10_whole_8 : decode cX10_whole 8 = .ok (.ifCond .eq 7, 3) := by decide +kernel
theorem dX10_whole_11 : decode cX10_whole 11 = .ok (.iconst 0, 1) := by decide +kernel
theorem dX10_whole_12 : decode cX10_whole 12 = .ok (.goto 4, 3) := by decide +kernel
theorem dX10_whole_15 : decode cX10_whole 15 = .ok (.iconst 1, 1) := by decide +kernel
theorem dX10_whole_16 : decode cX10_whole 16 = .ok (.invokevirtual 94, 3) := by decide +kernel
theorem dX10_whole_19 : decode cX10_whole 19 = .ok (.ifCond .eq 7, 3) := by decide +kernel
theorem dX10_whole_22 : decode cX10_whole 22 = .ok (.iconst 0, 1) := by decide +kernel
theorem dX10_whole_23 : decode cX10_whole 23 = .ok (.goto 8, 3) := by decide +kernel
theorem dX10_whole_26 : decode cX10_whole 26 = .ok (.aload_n 0, 1) := by decide +kernel
theorem dX10_whole_27 : decode cX10_whole 27 = .ok (.iload_n 1, 1) := by decide +kernel
theorem dX10_whole_28 : decode cX10_whole 28 = .ok (.invokevirtual 128, 3) := by decide +kernel
theorem dX10_whole_31 : decode cX10_whole 31 = .ok (.ireturn, 1) := by decide +kernel
theorem cc_X10_whole_X10_in : CallC tX10_whole tX10_in 3 := ⟨by decide +kernel, by decide +kernel, by decide +kernel, by decide, by decide, qw_80, qw_1025⟩
theorem cc_X10_whole_X10_throwsAt : CallC tX10_whole tX10_throwsAt 1 := ⟨by decide +kernel, by decide +kernel, by decide +kernel, by decide, by decide, qw_80, qw_1029⟩
theorem cc_X10_whole_X10_wholeOf : CallC tX10_whole tX10_wholeOf 1 := ⟨by decide +kernel, by decide +kernel, by decide +kernel, by decide, by decide, qw_80, qw_1164⟩
def kX10_whole : Nat → WOp := cN 12 (cN 3 (cN 1 (cN 0 (cL 0 (o_aload 1 0)) (cL 1 (o_iload 2 1))) (cN 2 (cL 2 (o_push 3 0)) (cL 3 (o_push 5 17)))) (cN 8 (cN 5 (cL 5 (o_callS 8 3 tX10_in 0 0)) (cL 8 (o_if_eq 15 11))) (cN 11 (cL 11 (o_push 12 0)) (cL 12 (o_goto 16))))) (cN 22 (cN 16 (cN 15 (cL 15 (o_push 16 1)) (cL 16 (o_callV 19 8 1 tX10_throwsAt 0 0))) (cN 19 (cL 19 (o_if_eq 26 22)) (cL 22 (o_push 23 0)))) (cN 26 (cN 23 (cL 23 (o_goto 31)) (cL 26 (o_aload 27 0))) (cN 27 (cL 27 (o_iload 28 1)) (cN 28 (cL 28 (o_callV 31 8 1 tX10_wholeOf 0 0)) (cL 31 (o_iret))))))
theorem sX10_whole : ∀ pc, Snd tX10_whole G1 pc (kX10_whole pc) := s_N (s_N (s_N (s_N (s_L (s_aload_n dX10_whole_0 rfl)) (s_L (s_iload_n dX10_whole_1 rfl))) (s_N (s_L (s_iconst dX10_whole_2 (by decide +kernel))) (s_L (s_bipush dX10_whole_3 (by decide +kernel))))) (s_N (s_N (s_L (s_callS (d' := tX10_in) (mc := 0) (ms := 0) cc_X10_whole_X10_in qw_1023 qw_1024 dX10_whole_5)) (s_L (s_o_if_eq dX10_whole_8 (by decide)))) (s_N (s_L (s_iconst dX10_whole_11 (by decide +kernel))) (s_L (s_o_goto dX10_whole_12 (by decide)))))) (s_N (s_N (s_N (s_L (s_iconst dX10_whole_15 (by decide +kernel))) (s_L (s_callV (d' := tX10_throwsAt) (mc := 0) (ms := 0) ok_8 cc_X10_whole_X10_throwsAt qw_1026 qw_1028 qw_31 dX10_whole_16))) (s_N (s_L (s_o_if_eq dX10_whole_19 (by decide))) (s_L (s_iconst dX10_whole_22 (by decide +kernel))))) (s_N (s_N (s_L (s_o_goto dX10_whole_23 (by decide))) (s_L (s_aload_n dX10_whole_26 rfl))) (s_N (s_L (s_iload_n dX10_whole_27 rfl)) (s_N (s_L (s_callV (d' := tX10_wholeOf) (mc := 0) (ms := 0) ok_8 cc_X10_whole_X10_wholeOf qw_1161 qw_1163 qw_54 dX10_whole_28)) (s_L (s_iret rfl dX10_whole_31))))))
/-! PlateArmModel.numberOf -/
theorem dX10_numberOf_0 : decode cX10_numberOf 0 = .ok (.iload_n 1, 1) := by decide +kernel
theorem dX10_numberOf_1 : decode cX10_numberOf 1 = .ok (.iconst (-1), 1) := by decide +kernel
theorem dX10_numberOf_2 : decode cX10_numberOf 2 = .ok (.if_icmp .ne 7, 3) := by decide +kernel
theorem dX10_numberOf_5 : decode cX10_numberOf 5 = .ok (.iconst (-1), 1) := by decide +kernel
theorem dX10_numberOf_6 : decode cX10_numberOf 6 = .ok (.goto 9, 3) := by decide +kernel
theorem dX10_numberOf_9 : decode cX10_numberOf 9 = .ok (.aload_n 0, 1) := by decide +kernel
theorem dX10_numberOf_10 : decode cX10_numberOf 10 = .ok (.iload_n 1, 1) := by decide +kernel
theorem dX10_numberOf_11 : decode cX10_numberOf 11 = .ok (.iconst 0, 1) := by decide +kernel
theorem dX10_numberOf_12 : decode cX10_numberOf 12 = .ok (.invokevirtual 39, 3) := by decide +kernel
theorem dX10_numberOf_15 : decode cX10_numberOf 15 = .ok (.ireturn, 1) := by decide +kernel
theorem cc_X10_numberOf_X10_of : CallC tX10_numberOf tX10_of 2 := ⟨by decide +kernel, by decide +kernel, by decide +kernel, by decide, by decide, qw_80, qw_1049⟩
def kX10_numberOf : Nat → WOp := cN 6 (cN 1 (cN 0 (cL 0 (o_iload 1 1)) (cL 1 (o_push 2 (-1)))) (cN 2 (cL 2 (o_icmp_ne 9 5)) (cN 5 (cL 5 (o_push 6 (-1))) (cL 6 (o_goto 15))))) (cN 10 (cN 9 (cL 9 (o_aload 10 0)) (cL 10 (o_iload 11 1))) (cN 11 (cL 11 (o_push 12 0)) (cN 12 (cL 12 (o_callV 15 8 2 tX10_of 0 0)) (cL 15 (o_iret)))))
theorem sX10_numberOf : ∀ pc, Snd tX10_numberOf G1 pc (kX10_numberOf pc) := s_N (s_N (s_N (s_L (s_iload_n dX10_numberOf_0 rfl)) (s_L (s_iconst dX10_numberOf_1 (by decide +kernel)))) (s_N (s_L (s_o_icmp_ne dX10_numberOf_2 (by decide))) (s_N (s_L (s_iconst dX10_numberOf_5 (by decide +kernel))) (s_L (s_o_goto dX10_numberOf_6 (by decide)))))) (s_N (s_N (s_L (s_aload_n dX10_numberOf_9 rfl)) (s_L (s_iload_n dX10_numberOf_10 rfl))) (s_N (s_L (s_iconst dX10_numberOf_11 (by decide +kernel))) (s_N (s_L (s_callV (d' := tX10_of) (mc := 0) (ms := 0) ok_8 cc_X10_numberOf_X10_of qw_1046 qw_1048 qw_34 dX10_numberOf_12)) (s_L (s_iret rfl dX10_numberOf_15)))))
/-! PlateArmModel.target -/
theorem dX10_target_0 : decode cX10_target 0 = .ok (.aload_n 0, 1) := by decide +kernel
theorem dX10_target_1 : decode cX10_target 1 = .ok (.iload_n 1, 1) := by decide +kernel
theorem dX10_target_2 : decode cX10_target 2 = .ok (.iconst 0, 1) := by decide +kernel
theorem dX10_target_3 : decode cX10_target 3 = .ok (.iconst 3, 1) := by decide +kernel
theorem dX10_target_4 : decode cX10_target 4 = .ok (.invokestatic 90, 3) := by decide +kernel
theorem dX10_target_7 : decode cX10_target 7 = .ok (.ifCond .eq 7, 3) := by decide +kernel
theorem dX10_target_10 : decode cX10_target 10 = .ok (.iconst 0, 1) := by decide +kernel
theorem dX10_target_11 : decode cX10_target 11 = .ok (.goto 4, 3) := by decide +kernel
theorem dX10_target_14 : decode cX10_target 14 = .ok (.iconst 1, 1) := by decide +kernel
theorem dX10_target_15 : decode cX10_target 15 = .ok (.invokevirtual 94, 3) := by decide +kernel
theorem dX10_target_18 : decode cX10_target 18 = .ok (.ifCond .eq 7, 3) := by decide +kernel
theorem dX10_target_21 : decode cX10_target 21 = .ok (.iconst 0, 1) := by decide +kernel
theorem dX10_target_22 : decode cX10_target 22 = .ok (.goto 12, 3) := by decide +kernel
theorem dX10_target_25 : decode cX10_target 25 = .ok (.aload_n 0, 1) := by decide +kernel
theorem dX10_target_26 : decode cX10_target 26 = .ok (.aload_n 0, 1) := by decide +kernel
theorem dX10_target_27 : decode cX10_target 27 = .ok (.iload_n 1, 1) := by decide +kernel
theorem dX10_target_28 : decode cX10_target 28 = .ok (.invokevirtual 78, 3) := by decide +kernel
theorem dX10_target_31 : decode cX10_target 31 = .ok (.invokevirtual 131, 3) := by decide +kernel
theorem dX10_target_34 : decode cX10_target 34 = .ok (.ireturn, 1) := by decide +kernel
theorem cc_X10_target_X10_in : CallC tX10_target tX10_in 3 := ⟨by decide +kernel, by decide +kernel, by decide +kernel, by decide, by decide, qw_80, qw_1025⟩
theorem cc_X10_target_X10_throwsAt : CallC tX10_target tX10_throwsAt 1 := ⟨by decide +kernel, by decide +kernel, by decide +kernel, by decide, by decide, qw_80, qw_1029⟩
theorem cc_X10_target_X10_targetBy : CallC tX10_target tX10_targetBy 1 := ⟨by decide +kernel, by decide +kernel, by decide +kernel, by decide, by decide, qw_80, qw_1069⟩
theorem cc_X10_target_X10_numberOf : CallC tX10_target tX10_numberOf 1 := ⟨by decide +kernel, by decide +kernel, by decide +kernel, by decide, by decide, qw_80, qw_1172⟩
def kX10_target : Nat → WOp := cN 14 (cN 3 (cN 1 (cN 0 (cL 0 (o_aload 1 0)) (cL 1 (o_iload 2 1))) (cN 2 (cL 2 (o_push 3 0)) (cL 3 (o_push 4 3)))) (cN 7 (cN 4 (cL 4 (o_callS 7 3 tX10_in 0 0)) (cL 7 (o_if_eq 14 10))) (cN 10 (cL 10 (o_push 11 0)) (cN 11 (cL 11 (o_goto 15)) (cL 14 (o_push 15 1)))))) (cN 25 (cN 18 (cN 15 (cL 15 (o_callV 18 8 1 tX10_throwsAt 0 0)) (cL 18 (o_if_eq 25 21))) (cN 21 (cL 21 (o_push 22 0)) (cN 22 (cL 22 (o_goto 34)) (cL 25 (o_aload 26 0))))) (cN 27 (cN 26 (cL 26 (o_aload 27 0)) (cL 27 (o_iload 28 1))) (cN 28 (cL 28 (o_callV 31 8 1 tX10_targetBy 0 0)) (cN 31 (cL 31 (o_callV 34 8 1 tX10_numberOf 0 0)) (cL 34 (o_iret))))))
theorem sX10_target : ∀ pc, Snd tX10_target G1 pc (kX10_target pc) := s_N (s_N (s_N (s_N (s_L (s_aload_n dX10_target_0 rfl)) (s_L (s_iload_n dX10_target_1 rfl))) (s_N (s_L (s_iconst dX10_target_2 (by decide +kernel))) (s_L (s_iconst dX10_target_3 (by decide +kernel))))) (s_N (s_N (s_L (s_callS (d' := tX10_in) (mc := 0) (ms := 0) cc_X10_target_X10_in qw_1023 qw_1024 dX10_target_4)) (s_L (s_o_if_eq dX10_target_7 (by decide)))) (s_N (s_L (s_iconst dX10_target_10 (by decide +kernel))) (s_N (s_L (s_o_goto dX10_target_11 (by decide))) (s_L (s_iconst dX10_target_14 (by decide +kernel))))))) (s_N (s_N (s_N (s_L (s_callV (d' := tX10_throwsAt) (mc := 0) (ms := 0) ok_8 cc_X10_target_X10_throwsAt qw_1026 qw_1028 qw_31 dX10_target_15)) (s_L (s_o_if_eq dX10_target_18 (by decide)))) (s_N (s_L (s_iconst dX10_target_21 (by decide +kernel))) (s_N (s_L (s_o_goto dX10_target_22 (by decide))) (s_L (s_aload_n dX10_target_25 rfl))))) (s_N (s_N (s_L (s_aload_n dX10_target_26 rfl)) (s_L (s_iload_n dX10_target_27 rfl))) (s_N (s_L (s_callV (d' := tX10_targetBy) (mc := 0) (ms := 0) ok_8 cc_X10_target_X10_targetBy qw_1066 qw_1068 qw_37 dX10_target_28)) (s_N (s_L (s_callV (d' := tX10_numberOf) (mc := 0) (ms := 0) ok_8 cc_X10_target_X10_numberOf qw_1169 qw_1171 qw_55 dX10_target_31)) (s_L (s_iret rfl dX10_target_34))))))
/-! PlateArmModel.readIn -/
theorem dX10_readIn_0 : decode cX10_readIn 0 = .ok (.aload_n 0, 1) := by decide +kernel
theorem dX10_readIn_1 : decode cX10_readIn 1 = .ok (.aload_n 0, 1) := by decide +kernel
theorem dX10_readIn_2 : decode cX10_readIn 2 = .ok (.iload_n 1, 1) := by decide +kernel
theorem dX10_readIn_3 : decode cX10_readIn 3 = .ok (.invokevirtual 101, 3) := by decide +kernel
theorem dX10_readIn_6 : decode cX10_readIn 6 = .ok (.iconst (-1), 1) := by decide +kernel
theorem dX10_readIn_7 : decode cX10_readIn 7 = .ok (.if_icmp .ne 7, 3) := by decide +kernel
theorem dX10_readIn_10 : decode cX10_readIn 10 = .ok (.iconst 1, 1) := by decide +kernel
theorem dX10_readIn_11 : decode cX10_readIn 11 = .ok (.goto 4, 3) := by decide +kernel
theorem dX10_readIn_14 : decode cX10_readIn 14 = .ok (.iconst 0, 1) := by decide +kernel
theorem dX10_readIn_15 : decode cX10_readIn 15 = .ok (.invokevirtual 94, 3) := by decide +kernel
theorem dX10_readIn_18 : decode cX10_readIn 18 = .ok (.ifCond .eq 5, 3) := by decide +kernel
theorem dX10_readIn_21 : decode cX10_readIn 21 = .ok (.iconst 0, 1) := by decide +kernel
theorem dX10_readIn_22 : decode cX10_readIn 22 = .ok (.ireturn, 1) := by decide +kernel
theorem dX10_readIn_23 : decode cX10_readIn 23 = .ok (.aload_n 0, 1) := by decide +kernel
theorem dX10_readIn_24 : decode cX10_readIn 24 = .ok (.invokevirtual 107, 3) := by decide +kernel
theorem dX10_readIn_27 : decode cX10_readIn 27 = .ok (.aload_n 0, 1) := by decide +kernel
theorem dX10_readIn_28 : decode cX10_readIn 28 = .ok (.iload_n 1, 1) := by decide +kernel
theorem dX10_readIn_29 : decode cX10_readIn 29 = .ok (.putfield 22, 3) := by decide +kernel
theorem dX10_readIn_32 : decode cX10_readIn 32 = .ok (.aload_n 0, 1) := by decide +kernel
theorem dX10_readIn_33 : decode cX10_readIn 33 = .ok (.iconst (-1), 1) := by decide +kernel
theorem dX10_readIn_34 : decode cX10_readIn 34 = .ok (.putfield 68, 3) := by decide +kernel
theorem dX10_readIn_37 : decode cX10_readIn 37 = .ok (.iconst 0, 1) := by decide +kernel
theorem dX10_readIn_38 : decode cX10_readIn 38 = .ok (.istore_n 2, 1) := by decide +kernel
theorem dX10_readIn_39 : decode cX10_readIn 39 = .ok (.iload_n 2, 1) := by decide +kernel
theorem dX10_readIn_40 : decode cX10_readIn 40 = .ok (.sipush 500, 3) := by decide +kernel
theorem dX10_readIn_43 : decode cX10_readIn 43 = .ok (.if_icmp .ge 22, 3) := by decide +kernel
theorem dX10_readIn_46 : decode cX10_readIn 46 = .ok (.aload_n 0, 1) := by decide +kernel
theorem dX10_readIn_47 : decode cX10_readIn 47 = .ok (.iload_n 1, 1) := by decide +kernel
theorem dX10_readIn_48 : decode cX10_readIn 48 = .ok (.invokevirtual 101, 3) := by decide +kernel
theorem dX10_readIn_51 : decode cX10_readIn 51 = .ok (.iconst (-1), 1) := by decide +kernel
theorem dX10_readIn_52 : decode cX10_readIn 52 = .ok (.if_icmp .eq 13, 3) := by decide +kernel
theorem dX10_readIn_55 : decode cX10_readIn 55 = .ok (.aload_n 0, 1) := by decide +kernel
theorem dX10_readIn_56 : decode cX10_readIn 56 = .ok (.invokevirtual 104, 3) := by decide +kernel
theorem dX10_readIn_59 : decode cX10_readIn 59 = .ok (.iinc 2 1, 3) := by decide +kernel
theorem dX10_readIn_62 : decode cX10_readIn 62 = .ok (.goto (-23), 3) := by decide +kernel
theorem dX10_readIn_65 : decode cX10_readIn 65 = .ok (.aload_n 0, 1) := by decide +kernel
theorem dX10_readIn_66 : decode cX10_readIn 66 = .ok (.iconst (-1), 1) := by decide +kernel
theorem dX10_readIn_67 : decode cX10_readIn 67 = .ok (.putfield 22, 3) := by decide +kernel
theorem dX10_readIn_70 : decode cX10_readIn 70 = .ok (.aload_n 0, 1) := by decide +kernel
theorem dX10_readIn_71 : decode cX10_readIn 71 = .ok (.invokevirtual 113, 3) := by decide +kernel
theorem dX10_readIn_74 : decode cX10_readIn 74 = .ok (.aload_n 0, 1) := by decide +kernel
theorem dX10_readIn_75 : decode cX10_readIn 75 = .ok (.getfield 68, 3) := by decide +kernel
theorem dX10_readIn_78 : decode cX10_readIn 78 = .ok (.ireturn, 1) := by decide +kernel
theorem cc_X10_readIn_X10_placeOf : CallC tX10_readIn tX10_placeOf 1 := ⟨by decide +kernel, by decide +kernel, by decide +kernel, by decide, by decide, qw_80, qw_1045⟩
theorem cc_X10_readIn_X10_throwsAt : CallC tX10_readIn tX10_throwsAt 1 := ⟨by decide +kernel, by decide +kernel, by decide +kernel, by decide, by decide, qw_80, qw_1029⟩
theorem cc_X10_readIn_X10_holds : CallC tX10_readIn tX10_holds 0 := ⟨by decide +kernel, by decide +kernel, by decide +kernel, by decide, by decide, qw_80, qw_1120⟩
theorem cc_X10_readIn_X10_ticks : CallC tX10_readIn tX10_ticks 0 := ⟨by decide +kernel, by decide +kernel, by decide +kernel, by decide, by decide, qw_80, qw_1065⟩
theorem cc_X10_readIn_X10_lets : CallC tX10_readIn tX10_lets 0 := ⟨by decide +kernel, by decide +kernel, by decide +kernel, by decide, by decide, qw_80, qw_1128⟩
def kX10_readIn : Nat → WOp := cN 34 (cN 15 (cN 6 (cN 1 (cN 0 (cL 0 (o_aload 1 0)) (cL 1 (o_aload 2 0))) (cN 2 (cL 2 (o_iload 3 1)) (cN 3 (cL 3 (o_callV 6 8 1 tX10_placeOf 0 0)) (cL 6 (o_push 7 (-1)))))) (cN 10 (cN 7 (cL 7 (o_icmp_ne 14 10)) (cL 10 (o_push 11 1))) (cN 11 (cL 11 (o_goto 15)) (cN 14 (cL 14 (o_push 15 0)) (cL 15 (o_callV 18 8 1 tX10_throwsAt 0 0)))))) (cN 24 (cN 21 (cN 18 (cL 18 (o_if_eq 23 21)) (cL 21 (o_push 22 0))) (cN 22 (cL 22 (o_iret)) (cN 23 (cL 23 (o_aload 24 0)) (cL 24 (o_callV 27 8 0 tX10_holds 0 0))))) (cN 29 (cN 27 (cL 27 (o_aload 28 0)) (cN 28 (cL 28 (o_iload 29 1)) (cL 29 (o_puti 32 8 8)))) (cN 32 (cL 32 (o_aload 33 0)) (cN 33 (cL 33 (o_push 34 (-1))) (cL 34 (o_puti 37 8 9))))))) (cN 55 (cN 43 (cN 38 (cN 37 (cL 37 (o_push 38 0)) (cL 38 (o_istore 39 2))) (cN 39 (cL 39 (o_iload 40 2)) (cN 40 (cL 40 (o_push 43 500)) (cL 43 (o_icmp_ge 65 46))))) (cN 48 (cN 46 (cL 46 (o_aload 47 0)) (cN 47 (cL 47 (o_iload 48 1)) (cL 48 (o_callV 51 8 1 tX10_placeOf 0 0)))) (cN 51 (cL 51 (o_push 52 (-1))) (cN 52 (cL 52 (o_icmp_eq 65 55)) (cL 55 (o_aload 56 0)))))) (cN 66 (cN 59 (cN 56 (cL 56 (o_callV 59 8 0 tX10_ticks 0 0)) (cL 59 (o_iinc 62 2 1))) (cN 62 (cL 62 (o_goto 39)) (cN 65 (cL 65 (o_aload 66 0)) (cL 66 (o_push 67 (-1)))))) (cN 71 (cN 67 (cL 67 (o_puti 70 8 8)) (cN 70 (cL 70 (o_aload 71 0)) (cL 71 (o_callV 74 8 0 tX10_lets 0 0)))) (cN 74 (cL 74 (o_aload 75 0)) (cN 75 (cL 75 (o_getf 78 8 9)) (cL 78 (o_iret)))))))
theorem sX10_readIn : ∀ pc, Snd tX10_readIn G1 pc (kX10_readIn pc) := s_N (s_N (s_N (s_N (s_N (s_L (s_aload_n dX10_readIn_0 rfl)) (s_L (s_aload_n dX10_readIn_1 rfl))) (s_N (s_L (s_iload_n dX10_readIn_2 rfl)) (s_N (s_L (s_callV (d' := tX10_placeOf) (mc := 0) (ms := 0) ok_8 cc_X10_readIn_X10_placeOf qw_1042 qw_1044 qw_33 dX10_readIn_3)) (s_L (s_iconst dX10_readIn_6 (by decide +kernel)))))) (s_N (s_N (s_L (s_o_icmp_ne dX10_readIn_7 (by decide))) (s_L (s_iconst dX10_readIn_10 (by decide +kernel)))) (s_N (s_L (s_o_goto dX10_readIn_11 (by decide))) (s_N (s_L (s_iconst dX10_readIn_14 (by decide +kernel))) (s_L (s_callV (d' := tX10_throwsAt) (mc := 0) (ms := 0) ok_8 cc_X10_readIn_X10_throwsAt qw_1026 qw_1028 qw_31 dX10_readIn_15)))))) (s_N (s_N (s_N (s_L (s_o_if_eq dX10_readIn_18 (by decide))) (s_L (s_iconst dX10_readIn_21 (by decide +kernel)))) (s_N (s_L (s_iret rfl dX10_readIn_22)) (s_N (s_L (s_aload_n dX10_readIn_23 rfl)) (s_L (s_callV (d' := tX10_holds) (mc := 0) (ms := 0) ok_8 cc_X10_readIn_X10_holds qw_1117 qw_1119 qw_48 dX10_readIn_24))))) (s_N (s_N (s_L (s_aload_n dX10_readIn_27 rfl)) (s_N (s_L (s_iload_n dX10_readIn_28 rfl)) (s_L (s_puti ok_8 (k := 8) (by decide) rfl (Or.inl rfl) dX10_readIn_29 qw_980)))) (s_N (s_L (s_aload_n dX10_readIn_32 rfl)) (s_N (s_L (s_iconst dX10_readIn_33 (by decide +kernel))) (s_L (s_puti ok_8 (k := 9) (by decide) rfl (Or.inl rfl) dX10_readIn_34 qw_981))))))) (s_N (s_N (s_N (s_N (s_L (s_iconst dX10_readIn_37 (by decide +kernel))) (s_L (s_istore_n dX10_readIn_38 rfl (by decide)))) (s_N (s_L (s_iload_n dX10_readIn_39 rfl)) (s_N (s_L (s_sipush dX10_readIn_40 (by decide +kernel))) (s_L (s_o_icmp_ge dX10_readIn_43 (by decide)))))) (s_N (s_N (s_L (s_aload_n dX10_readIn_46 rfl)) (s_N (s_L (s_iload_n dX10_readIn_47 rfl)) (s_L (s_callV (d' := tX10_placeOf) (mc := 0) (ms := 0) ok_8 cc_X10_readIn_X10_placeOf qw_1042 qw_1044 qw_33 dX10_readIn_48)))) (s_N (s_L (s_iconst dX10_readIn_51 (by decide +kernel))) (s_N (s_L (s_o_icmp_eq dX10_readIn_52 (by decide))) (s_L (s_aload_n dX10_readIn_55 rfl)))))) (s_N (s_N (s_N (s_L (s_callV (d' := tX10_ticks) (mc := 0) (ms := 0) ok_8 cc_X10_readIn_X10_ticks qw_1062 qw_1064 qw_36 dX10_readIn_56)) (s_L (s_iinc (v := 1) dX10_readIn_59 (by decide +kernel) (by decide)))) (s_N (s_L (s_o_goto dX10_readIn_62 (by decide))) (s_N (s_L (s_aload_n dX10_readIn_65 rfl)) (s_L (s_iconst dX10_readIn_66 (by decide +kernel)))))) (s_N (s_N (s_L (s_puti ok_8 (k := 8) (by decide) rfl (Or.inl rfl) dX10_readIn_67 qw_980)) (s_N (s_L (s_aload_n dX10_readIn_70 rfl)) (s_L (s_callV (d' := tX10_lets) (mc := 0) (ms := 0) ok_8 cc_X10_readIn_X10_lets qw_1125 qw_1127 qw_50 dX10_readIn_71)))) (s_N (s_L (s_aload_n dX10_readIn_74 rfl)) (s_N (s_L (s_getf ok_8 (k := 9) (by decide) dX10_readIn_75 qw_981)) (s_L (s_iret rfl dX10_readIn_78)))))))
/-! PlateArmModel.valueBy -/
theorem dX10_valueBy_0 : decode cX10_valueBy 0 = .ok (.aload_n 0, 1) := by decide +kernel
theorem dX10_valueBy_1 : decode cX10_valueBy 1 = .ok (.invokevirtual 107, 3) := by decide +kernel
theorem dX10_valueBy_4 : decode cX10_valueBy 4 = .ok (.aload_n 0, 1) := by decide +kernel
theorem dX10_valueBy_5 : decode cX10_valueBy 5 = .ok (.getfield 7, 3) := by decide +kernel
theorem dX10_valueBy_8 : decode cX10_valueBy 8 = .ok (.iconst 2, 1) := by decide +kernel
theorem dX10_valueBy_9 : decode cX10_valueBy 9 = .ok (.iload_n 1, 1) := by decide +kernel
theorem dX10_valueBy_10 : decode cX10_valueBy 10 = .ok (.iastore, 1) := by decide +kernel
theorem dX10_valueBy_11 : decode cX10_valueBy 11 = .ok (.aload_n 0, 1) := by decide +kernel
theorem dX10_valueBy_12 : decode cX10_valueBy 12 = .ok (.invokevirtual 110, 3) := by decide +kernel
theorem dX10_valueBy_15 : decode cX10_valueBy 15 = .ok (.istore_n 3, 1) := by decide +kernel
theorem dX10_valueBy_16 : decode cX10_valueBy 16 = .ok (.aload_n 0, 1) := by decide +kernel
theorem dX10_valueBy_17 : decode cX10_valueBy 17 = .ok (.getfield 7, 3) := by decide +kernel
theorem dX10_valueBy_20 : decode cX10_valueBy 20 = .ok (.bipush 9, 2) := by decide +kernel
theorem dX10_valueBy_22 : decode cX10_valueBy 22 = .ok (.iaload, 1) := by decide +kernel
theorem dX10_valueBy_23 : decode cX10_valueBy 23 = .ok (.aload_n 0, 1) := by decide +kernel
theorem dX10_valueBy_24 : decode cX10_valueBy 24 = .ok (.getfield 16, 3) := by decide +kernel
theorem dX10_valueBy_27 : decode cX10_valueBy 27 = .ok (.bipush 9, 2) := by decide +kernel
theorem dX10_valueBy_29 : decode cX10_valueBy 29 = .ok (.iaload, 1) := by decide +kernel
theorem dX10_valueBy_30 : decode cX10_valueBy 30 = .ok (.isub, 1) := by decide +kernel
theorem dX10_valueBy_31 : decode cX10_valueBy 31 = .ok (.aload_n 0, 1) := by decide +kernel
theorem dX10_valueBy_32 : decode cX10_valueBy 32 = .ok (.getfield 7, 3) := by decide +kernel
theorem dX10_valueBy_35 : decode cX10_valueBy 35 = .ok (.bipush 10, 2) := by decide +kernel
theorem dX10_valueBy_37 : decode cX10_valueBy 37 = .ok (.iaload, 1) := by decide +kernel
theorem dX10_valueBy_38 : decode cX10_valueBy 38 = .ok (.iadd, 1) := by decide +kernel
theorem dX10_valueBy_39 : decode cX10_valueBy 39 = .ok (.aload_n 0, 1) := by decide +kernel
theorem dX10_valueBy_40 : decode cX10_valueBy 40 = .ok (.getfield 16, 3) := by decide +kernel
theorem dX10_valueBy_43 : decode cX10_valueBy 43 = .ok (.bipush 10, 2) := by decide +kernel
theorem dX10_valueBy_45 : decode cX10_valueBy 45 = .ok (.iaload, 1) := by decide +kernel
theorem dX10_valueBy_46 : decode cX10_valueBy 46 = .ok (.isub, 1) := by decide +kernel
theorem dX10_valueBy_47 : decode cX10_valueBy 47 = .ok (.istore 4, 2) := by decide +kernel
theorem dX10_valueBy_49 : decode cX10_valueBy 49 = .ok (.iload_n 2, 1) := by decide +kernel
theorem dX10_valueBy_50 : decode cX10_valueBy 50 = .ok (.ifCond .ne 7, 3) := by decide +kernel
theorem dX10_valueBy_53 : decode cX10_valueBy 53 = .ok (.iload_n 3, 1) := by decide +kernel
theorem dX10_valueBy_54 : decode cX10_valueBy 54 = .ok (.goto 95, 3) := by decide +kernel
theorem dX10_valueBy_57 : decode cX10_valueBy 57 = .ok (.iload_n 2, 1) := by decide +kernel
theorem dX10_valueBy_58 : decode cX10_valueBy 58 = .ok (.iconst 1, 1) := by decide +kernel
theorem dX10_valueBy_59 : decode cX10_valueBy 59 = .ok (.if_icmp .ne 21, 3) := by decide +kernel
theorem dX10_valueBy_62 : decode cX10_valueBy 62 = .ok (.aload_n 0, 1) := by decide +kernel
theorem dX10_valueBy_63 : decode cX10_valueBy 63 = .ok (.getfield 7, 3) := by decide +kernel
theorem dX10_valueBy_66 : decode cX10_valueBy 66 = .ok (.bipush 8, 2) := by decide +kernel
theorem dX10_valueBy_68 : decode cX10_valueBy 68 = .ok (.iaload, 1) := by decide +kernel
theorem dX10_valueBy_69 : decode cX10_valueBy 69 = .ok (.aload_n 0, 1) := by decide +kernel
theorem dX10_valueBy_70 : decode cX10_valueBy 70 = .ok (.getfield 16, 3) := by decide +kernel
theorem dX10_valueBy_73 : decode cX10_valueBy 73 = .ok (.bipush 8, 2) := by decide +kernel
theorem dX10_valueBy_75 : decode cX10_valueBy 75 = .ok (.iaload, 1) := by decide +kernel
theorem dX10_valueBy_76 : decode cX10_valueBy 76 = .ok (.isub, 1) := by decide +kernel
theorem dX10_valueBy_77 : decode cX10_valueBy 77 = .ok (.goto 72, 3) := by decide +kernel
theorem dX10_valueBy_80 : decode cX10_valueBy 80 = .ok (.iload_n 2, 1) := by decide +kernel
theorem dX10_valueBy_81 : decode cX10_valueBy 81 = .ok (.iconst 2, 1) := by decide +kernel
theorem dX10_valueBy_82 : decode cX10_valueBy 82 = .ok (.if_icmp .ne 21, 3) := by decide +kernel
theorem dX10_valueBy_85 : decode cX10_valueBy 85 = .ok (.aload_n 0, 1) := by decide +kernel
theorem dX10_valueBy_86 : decode cX10_valueBy 86 = .ok (.getfield 7, 3) := by decide +kernel
theorem dX10_valueBy_89 : decode cX10_valueBy 89 = .ok (.bipush 9, 2) := by decide +kernel
theorem dX10_valueBy_91 : decode cX10_valueBy 91 = .ok (.iaload, 1) := by decide +kernel
theorem dX10_valueBy_92 : decode cX10_valueBy 92 = .ok (.aload_n 0, 1) := by decide +kernel
theorem dX10_valueBy_93 : decode cX10_valueBy 93 = .ok (.getfield 16, 3) := by decide +kernel
theorem dX10_valueBy_96 : decode cX10_valueBy 96 = .ok (.bipush 9, 2) := by decide +kernel
theorem dX10_valueBy_98 : decode cX10_valueBy 98 = .ok (.iaload, 1) := by decide +kernel
theorem dX10_valueBy_99 : decode cX10_valueBy 99 = .ok (.isub, 1) := by decide +kernel
theorem dX10_valueBy_100 : decode cX10_valueBy 100 = .ok (.goto 49, 3) := by decide +kernel
theorem dX10_valueBy_103 : decode cX10_valueBy 103 = .ok (.iload_n 2, 1) := by decide +kernel
theorem dX10_valueBy_104 : decode cX10_valueBy 104 = .ok (.iconst 3, 1) := by decide +kernel
theorem dX10_valueBy_105 : decode cX10_valueBy 105 = .ok (.if_icmp .ne 21, 3) := by decide +kernel
theorem dX10_valueBy_108 : decode cX10_valueBy 108 = .ok (.aload_n 0, 1) := by decide +kernel
theorem dX10_valueBy_109 : decode cX10_valueBy 109 = .ok (.getfield 7, 3) := by decide +kernel
theorem dX10_valueBy_112 : decode cX10_valueBy 112 = .ok (.bipush 11, 2) := by decide +kernel
theorem dX10_valueBy_114 : decode cX10_valueBy 114 = .ok (.iaload, 1) := by decide +kernel
theorem dX10_valueBy_115 : decode cX10_valueBy 115 = .ok (.aload_n 0, 1) := by decide +kernel
theorem dX10_valueBy_116 : decode cX10_valueBy 116 = .ok (.getfield 16, 3) := by decide +kernel
theorem dX10_valueBy_119 : decode cX10_valueBy 119 = .ok (.bipush 11, 2) := by decide +kernel
theorem dX10_valueBy_121 : decode cX10_valueBy 121 = .ok (.iaload, 1) := by decide +kernel
theorem dX10_valueBy_122 : decode cX10_valueBy 122 = .ok (.isub, 1) := by decide +kernel
theorem dX10_valueBy_123 : decode cX10_valueBy 123 = .ok (.goto 26, 3) := by decide +kernel
theorem dX10_valueBy_126 : decode cX10_valueBy 126 = .ok (.iload_n 2, 1) := by decide +kernel
theorem dX10_valueBy_127 : decode cX10_valueBy 127 = .ok (.iconst 4, 1) := by decide +kernel
theorem dX10_valueBy_128 : decode cX10_valueBy 128 = .ok (.if_icmp .ne 13, 3) := by decide +kernel
theorem dX10_valueBy_131 : decode cX10_valueBy 131 = .ok (.aload_n 0, 1) := by decide +kernel
theorem dX10_valueBy_132 : decode cX10_valueBy 132 = .ok (.getfield 7, 3) := by decide +kernel
theorem dX10_valueBy_135 : decode cX10_valueBy 135 = .ok (.bipush 18, 2) := by decide +kernel
theorem dX10_valueBy_137 : decode cX10_valueBy 137 = .ok (.iaload, 1) := by decide +kernel
theorem dX10_valueBy_138 : decode cX10_valueBy 138 = .ok (.goto 11, 3) := by decide +kernel
theorem dX10_valueBy_141 : decode cX10_valueBy 141 = .ok (.sipush 1000, 3) := by decide +kernel
theorem dX10_valueBy_144 : decode cX10_valueBy 144 = .ok (.iload 4, 2) := by decide +kernel
theorem dX10_valueBy_146 : decode cX10_valueBy 146 = .ok (.imul, 1) := by decide +kernel
theorem dX10_valueBy_147 : decode cX10_valueBy 147 = .ok (.iload_n 3, 1) := by decide +kernel
theorem dX10_valueBy_148 : decode cX10_valueBy 148 = .ok (.iadd, 1) := by decide +kernel
theorem dX10_valueBy_149 : decode cX10_valueBy 149 = .ok (.istore 5, 2) := by decide +kernel
theorem dX10_valueBy_151 : decode cX10_valueBy 151 = .ok (.aload_n 0, 1) := by decide +kernel
theorem dX10_valueBy_152 : decode cX10_valueBy 152 = .ok (.invokevirtual 113, 3) := by decide +kernel
theorem dX10_valueBy_155 : decode cX10_valueBy 155 = .ok (.iload 5, 2) := by decide +kernel
theorem dX10_valueBy_157 : decode cX10_valueBy 157 = .ok (.ireturn, 1) := by decide +kernel
theorem cc_X10_valueBy_X10_holds : CallC tX10_valueBy tX10_holds 0 := ⟨by decide +kernel, by decide +kernel, by decide +kernel, by decide, by decide, qw_80, qw_1120⟩
theorem cc_X10_valueBy_X10_finishes : CallC tX10_valueBy tX10_finishes 0 := ⟨by decide +kernel, by decide +kernel, by decide +kernel, by decide, by decide, qw_80, qw_1124⟩
theorem cc_X10_valueBy_X10_lets : CallC tX10_valueBy tX10_lets 0 := ⟨by decide +kernel, by decide +kernel, by decide +kernel, by decide, by decide, qw_80, qw_1128⟩
def kX10_valueBy : Nat → WOp := cN 75 (cN 35 (cN 16 (cN 8 (cN 1 (cN 0 (cL 0 (o_aload 1 0)) (cL 1 (o_callV 4 8 0 tX10_holds 0 0))) (cN 4 (cL 4 (o_aload 5 0)) (cN 5 (cL 5 (o_getf 8 8 0)) (cL 8 (o_push 9 2))))) (cN 11 (cN 9 (cL 9 (o_iload 10 1)) (cN 10 (cL 10 (o_iast 11)) (cL 11 (o_aload 12 0)))) (cN 12 (cL 12 (o_callV 15 8 0 tX10_finishes 0 0)) (cN 15 (cL 15 (o_istore 16 3)) (cL 16 (o_aload 17 0)))))) (cN 24 (cN 20 (cN 17 (cL 17 (o_getf 20 8 0)) (cL 20 (o_push 22 9))) (cN 22 (cL 22 (o_iald 23)) (cN 23 (cL 23 (o_aload 24 0)) (cL 24 (o_getf 27 8 2))))) (cN 30 (cN 27 (cL 27 (o_push 29 9)) (cN 29 (cL 29 (o_iald 30)) (cL 30 (o_isub 31)))) (cN 31 (cL 31 (o_aload 32 0)) (cN 32 (cL 32 (o_getf 35 8 0)) (cL 35 (o_push 37 10))))))) (cN 53 (cN 43 (cN 38 (cN 37 (cL 37 (o_iald 38)) (cL 38 (o_iadd 39))) (cN 39 (cL 39 (o_aload 40 0)) (cN 40 (cL 40 (o_getf 43 8 2)) (cL 43 (o_push 45 10))))) (cN 47 (cN 45 (cL 45 (o_iald 46)) (cN 46 (cL 46 (o_isub 47)) (cL 47 (o_istore 49 4)))) (cN 49 (cL 49 (o_iload 50 2)) (cN 50 (cL 50 (o_if_ne 57 53)) (cL 53 (o_iload 54 3)))))) (cN 63 (cN 58 (cN 54 (cL 54 (o_goto 149)) (cN 57 (cL 57 (o_iload 58 2)) (cL 58 (o_push 59 1)))) (cN 59 (cL 59 (o_icmp_ne 80 62)) (cN 62 (cL 62 (o_aload 63 0)) (cL 63 (o_getf 66 8 0))))) (cN 69 (cN 66 (cL 66 (o_push 68 8)) (cN 68 (cL 68 (o_iald 69)) (cL 69 (o_aload 70 0)))) (cN 70 (cL 70 (o_getf 73 8 2)) (cN 73 (cL 73 (o_push 75 8)) (cL 75 (o_iald 76)))))))) (cN 115 (cN 93 (cN 82 (cN 77 (cN 76 (cL 76 (o_isub 77)) (cL 77 (o_goto 149))) (cN 80 (cL 80 (o_iload 81 2)) (cN 81 (cL 81 (o_push 82 2)) (cL 82 (o_icmp_ne 103 85))))) (cN 89 (cN 85 (cL 85 (o_aload 86 0)) (cN 86 (cL 86 (o_getf 89 8 0)) (cL 89 (o_push 91 9)))) (cN 91 (cL 91 (o_iald 92)) (cN 92 (cL 92 (o_aload 93 0)) (cL 93 (o_getf 96 8 2)))))) (cN 104 (cN 99 (cN 96 (cL 96 (o_push 98 9)) (cN 98 (cL 98 (o_iald 99)) (cL 99 (o_isub 100)))) (cN 100 (cL 100 (o_goto 149)) (cN 103 (cL 103 (o_iload 104 2)) (cL 104 (o_push 105 3))))) (cN 109 (cN 105 (cL 105 (o_icmp_ne 126 108)) (cN 108 (cL 108 (o_aload 109 0)) (cL 109 (o_getf 112 8 0)))) (cN 112 (cL 112 (o_push 114 11)) (cN 114 (cL 114 (o_iald 115)) (cL 115 (o_aload 116 0))))))) (cN 135 (cN 123 (cN 119 (cN 116 (cL 116 (o_getf 119 8 2)) (cL 119 (o_push 121 11))) (cN 121 (cL 121 (o_iald 122)) (cN 122 (cL 122 (o_isub 123)) (cL 123 (o_goto 149))))) (cN 128 (cN 126 (cL 126 (o_iload 127 2)) (cN 127 (cL 127 (o_push 128 4)) (cL 128 (o_icmp_ne 141 131)))) (cN 131 (cL 131 (o_aload 132 0)) (cN 132 (cL 132 (o_getf 135 8 0)) (cL 135 (o_push 137 18)))))) (cN 147 (cN 141 (cN 137 (cL 137 (o_iald 138)) (cN 138 (cL 138 (o_goto 149)) (cL 141 (o_push 144 1000)))) (cN 144 (cL 144 (o_iload 146 4)) (cN 146 (cL 146 (o_imul 147)) (cL 147 (o_iload 148 3))))) (cN 151 (cN 148 (cL 148 (o_iadd 149)) (cN 149 (cL 149 (o_istore 151 5)) (cL 151 (o_aload 152 0)))) (cN 152 (cL 152 (o_callV 155 8 0 tX10_lets 0 0)) (cN 155 (cL 155 (o_iload 157 5)) (cL 157 (o_iret))))))))
theorem sX10_valueBy : ∀ pc, Snd tX10_valueBy G1 pc (kX10_valueBy pc) := s_N (s_N (s_N (s_N (s_N (s_N (s_L (s_aload_n dX10_valueBy_0 rfl)) (s_L (s_callV (d' := tX10_holds) (mc := 0) (ms := 0) ok_8 cc_X10_valueBy_X10_holds qw_1117 qw_1119 qw_48 dX10_valueBy_1))) (s_N (s_L (s_aload_n dX10_valueBy_4 rfl)) (s_N (s_L (s_getf ok_8 (k := 0) (by decide) dX10_valueBy_5 qw_972)) (s_L (s_iconst dX10_valueBy_8 (by decide +kernel)))))) (s_N (s_N (s_L (s_iload_n dX10_valueBy_9 rfl)) (s_N (s_L (s_iast dX10_valueBy_10)) (s_L (s_aload_n dX10_valueBy_11 rfl)))) (s_N (s_L (s_callV (d' := tX10_finishes) (mc := 0) (ms := 0) ok_8 cc_X10_valueBy_X10_finishes qw_1121 qw_1123 qw_49 dX10_valueBy_12)) (s_N (s_L (s_istore_n dX10_valueBy_15 rfl (by decide))) (s_L (s_aload_n dX10_valueBy_16 rfl)))))) (s_N (s_N (s_N (s_L (s_getf ok_8 (k := 0) (by decide) dX10_valueBy_17 qw_972)) (s_L (s_bipush dX10_valueBy_20 (by decide +kernel)))) (s_N (s_L (s_iald dX10_valueBy_22)) (s_N (s_L (s_aload_n dX10_valueBy_23 rfl)) (s_L (s_getf ok_8 (k := 2) (by decide) dX10_valueBy_24 qw_974))))) (s_N (s_N (s_L (s_bipush dX10_valueBy_27 (by decide +kernel))) (s_N (s_L (s_iald dX10_valueBy_29)) (s_L (s_o_isub dX10_valueBy_30)))) (s_N (s_L (s_aload_n dX10_valueBy_31 rfl)) (s_N (s_L (s_getf ok_8 (k := 0) (by decide) dX10_valueBy_32 qw_972)) (s_L (s_bipush dX10_valueBy_35 (by decide +kernel)))))))) (s_N (s_N (s_N (s_N (s_L (s_iald dX10_valueBy_37)) (s_L (s_o_iadd dX10_valueBy_38))) (s_N (s_L (s_aload_n dX10_valueBy_39 rfl)) (s_N (s_L (s_getf ok_8 (k := 2) (by decide) dX10_valueBy_40 qw_974)) (s_L (s_bipush dX10_valueBy_43 (by decide +kernel)))))) (s_N (s_N (s_L (s_iald dX10_valueBy_45)) (s_N (s_L (s_o_isub dX10_valueBy_46)) (s_L (s_istore dX10_valueBy_47 (by decide))))) (s_N (s_L (s_iload_n dX10_valueBy_49 rfl)) (s_N (s_L (s_o_if_ne dX10_valueBy_50 (by decide))) (s_L (s_iload_n dX10_valueBy_53 rfl)))))) (s_N (s_N (s_N (s_L (s_o_goto dX10_valueBy_54 (by decide))) (s_N (s_L (s_iload_n dX10_valueBy_57 rfl)) (s_L (s_iconst dX10_valueBy_58 (by decide +kernel))))) (s_N (s_L (s_o_icmp_ne dX10_valueBy_59 (by decide))) (s_N (s_L (s_aload_n dX10_valueBy_62 rfl)) (s_L (s_getf ok_8 (k := 0) (by decide) dX10_valueBy_63 qw_972))))) (s_N (s_N (s_L (s_bipush dX10_valueBy_66 (by decide +kernel))) (s_N (s_L (s_iald dX10_valueBy_68)) (s_L (s_aload_n dX10_valueBy_69 rfl)))) (s_N (s_L (s_getf ok_8 (k := 2) (by decide) dX10_valueBy_70 qw_974)) (s_N (s_L (s_bipush dX10_valueBy_73 (by decide +kernel))) (s_L (s_iald dX10_valueBy_75)))))))) (s_N (s_N (s_N (s_N (s_N (s_L (s_o_isub dX10_valueBy_76)) (s_L (s_o_goto dX10_valueBy_77 (by decide)))) (s_N (s_L (s_iload_n dX10_valueBy_80 rfl)) (s_N (s_L (s_iconst dX10_valueBy_81 (by decide +kernel))) (s_L (s_o_icmp_ne dX10_valueBy_82 (by decide)))))) (s_N (s_N (s_L (s_aload_n dX10_valueBy_85 rfl)) (s_N (s_L (s_getf ok_8 (k := 0) (by decide) dX10_valueBy_86 qw_972)) (s_L (s_bipush dX10_valueBy_89 (by decide +kernel))))) (s_N (s_L (s_iald dX10_valueBy_91)) (s_N (s_L (s_aload_n dX10_valueBy_92 rfl)) (s_L (s_getf ok_8 (k := 2) (by decide) dX10_valueBy_93 qw_974)))))) (s_N (s_N (s_N (s_L (s_bipush dX10_valueBy_96 (by decide +kernel))) (s_N (s_L (s_iald dX10_valueBy_98)) (s_L (s_o_isub dX10_valueBy_99)))) (s_N (s_L (s_o_goto dX10_valueBy_100 (by decide))) (s_N (s_L (s_iload_n dX10_valueBy_103 rfl)) (s_L (s_iconst dX10_valueBy_104 (by decide +kernel)))))) (s_N (s_N (s_L (s_o_icmp_ne dX10_valueBy_105 (by decide))) (s_N (s_L (s_aload_n dX10_valueBy_108 rfl)) (s_L (s_getf ok_8 (k := 0) (by decide) dX10_valueBy_109 qw_972)))) (s_N (s_L (s_bipush dX10_valueBy_112 (by decide +kernel))) (s_N (s_L (s_iald dX10_valueBy_114)) (s_L (s_aload_n dX10_valueBy_115 rfl))))))) (s_N (s_N (s_N (s_N (s_L (s_getf ok_8 (k := 2) (by decide) dX10_valueBy_116 qw_974)) (s_L (s_bipush dX10_valueBy_119 (by decide +kernel)))) (s_N (s_L (s_iald dX10_valueBy_121)) (s_N (s_L (s_o_isub dX10_valueBy_122)) (s_L (s_o_goto dX10_valueBy_123 (by decide)))))) (s_N (s_N (s_L (s_iload_n dX10_valueBy_126 rfl)) (s_N (s_L (s_iconst dX10_valueBy_127 (by decide +kernel))) (s_L (s_o_icmp_ne dX10_valueBy_128 (by decide))))) (s_N (s_L (s_aload_n dX10_valueBy_131 rfl)) (s_N (s_L (s_getf ok_8 (k := 0) (by decide) dX10_valueBy_132 qw_972)) (s_L (s_bipush dX10_valueBy_135 (by decide +kernel))))))) (s_N (s_N (s_N (s_L (s_iald dX10_valueBy_137)) (s_N (s_L (s_o_goto dX10_valueBy_138 (by decide))) (s_L (s_sipush dX10_valueBy_141 (by decide +kernel))))) (s_N (s_L (s_iload dX10_valueBy_144)) (s_N (s_L (s_o_imul dX10_valueBy_146)) (s_L (s_iload_n dX10_valueBy_147 rfl))))) (s_N (s_N (s_L (s_o_iadd dX10_valueBy_148)) (s_N (s_L (s_istore dX10_valueBy_149 (by decide))) (s_L (s_aload_n dX10_valueBy_151 rfl)))) (s_N (s_L (s_callV (d' := tX10_lets) (mc := 0) (ms := 0) ok_8 cc_X10_valueBy_X10_lets qw_1125 qw_1127 qw_50 dX10_valueBy_152)) (s_N (s_L (s_iload dX10_valueBy_155)) (s_L (s_iret rfl dX10_valueBy_157))))))))
/-! PlateArmModel.finishBy -/
theorem dX10_finishBy_0 : decode cX10_finishBy 0 = .ok (.aload_n 0, 1) := by decide +kernel
theorem dX10_finishBy_1 : decode cX10_finishBy 1 = .ok (.iload_n 1, 1) := by decide +kernel
theorem dX10_finishBy_2 : decode cX10_finishBy 2 = .ok (.iconst 0, 1) := by decide +kernel
theorem dX10_finishBy_3 : decode cX10_finishBy 3 = .ok (.iconst 3, 1) := by decide +kernel
theorem dX10_finishBy_4 : decode cX10_finishBy 4 = .ok (.invokestatic 90, 3) := by decide +kernel
theorem dX10_finishBy_7 : decode cX10_finishBy 7 = .ok (.ifCond .eq 12, 3) := by decide +kernel
theorem dX10_finishBy_10 : decode cX10_finishBy 10 = .ok (.iload_n 2, 1) := by decide +kernel
theorem dX10_finishBy_11 : decode cX10_finishBy 11 = .ok (.iconst 0, 1) := by decide +kernel
theorem dX10_finishBy_12 : decode cX10_finishBy 12 = .ok (.iconst 4, 1) := by decide +kernel
theorem dX10_finishBy_13 : decode cX10_finishBy 13 = .ok (.invokestatic 90, 3) := by decide +kernel
theorem dX10_finishBy_16 : decode cX10_finishBy 16 = .ok (.ifCond .ne 7, 3) := by decide +kernel
theorem dX10_finishBy_19 : decode cX10_finishBy 19 = .ok (.iconst 1, 1) := by decide +kernel
theorem dX10_finishBy_20 : decode cX10_finishBy 20 = .ok (.goto 4, 3) := by decide +kernel
theorem dX10_finishBy_23 : decode cX10_finishBy 23 = .ok (.iconst 0, 1) := by decide +kernel
theorem dX10_finishBy_24 : decode cX10_finishBy 24 = .ok (.invokevirtual 94, 3) := by decide +kernel
theorem dX10_finishBy_27 : decode cX10_finishBy 27 = .ok (.ifCond .eq 7, 3) := by decide +kernel
theorem dX10_finishBy_30 : decode cX10_finishBy 30 = .ok (.iconst 0, 1) := by decide +kernel
theorem dX10_finishBy_31 : decode cX10_finishBy 31 = .ok (.goto 9, 3) := by decide +kernel
theorem dX10_finishBy_34 : decode cX10_finishBy 34 = .ok (.aload_n 0, 1) := by decide +kernel
theorem dX10_finishBy_35 : decode cX10_finishBy 35 = .ok (.iload_n 1, 1) := by decide +kernel
theorem dX10_finishBy_36 : decode cX10_finishBy 36 = .ok (.iload_n 2, 1) := by decide +kernel
theorem dX10_finishBy_37 : decode cX10_finishBy 37 = .ok (.invokevirtual 134, 3) := by decide +kernel
theorem dX10_finishBy_40 : decode cX10_finishBy 40 = .ok (.ireturn, 1) := by decide +kernel
theorem cc_X10_finishBy_X10_in : CallC tX10_finishBy tX10_in 3 := ⟨by decide +kernel, by decide +kernel, by decide +kernel, by decide, by decide, qw_80, qw_1025⟩
theorem cc_X10_finishBy_X10_throwsAt : CallC tX10_finishBy tX10_throwsAt 1 := ⟨by decide +kernel, by decide +kernel, by decide +kernel, by decide, by decide, qw_80, qw_1029⟩
theorem cc_X10_finishBy_X10_valueBy : CallC tX10_finishBy tX10_valueBy 2 := ⟨by decide +kernel, by decide +kernel, by decide +kernel, by decide, by decide, qw_80, qw_1184⟩
def kX10_finishBy : Nat → WOp := cN 16 (cN 4 (cN 1 (cN 0 (cL 0 (o_aload 1 0)) (cL 1 (o_iload 2 1))) (cN 2 (cL 2 (o_push 3 0)) (cN 3 (cL 3 (o_push 4 3)) (cL 4 (o_callS 7 3 tX10_in 0 0))))) (cN 11 (cN 7 (cL 7 (o_if_eq 19 10)) (cN 10 (cL 10 (o_iload 11 2)) (cL 11 (o_push 12 0)))) (cN 12 (cL 12 (o_push 13 4)) (cN 13 (cL 13 (o_callS 16 3 tX10_in 0 0)) (cL 16 (o_if_ne 23 19)))))) (cN 30 (cN 23 (cN 19 (cL 19 (o_push 20 1)) (cN 20 (cL 20 (o_goto 24)) (cL 23 (o_push 24 0)))) (cN 24 (cL 24 (o_callV 27 8 1 tX10_throwsAt 0 0)) (cN 27 (cL 27 (o_if_eq 34 30)) (cL 30 (o_push 31 0))))) (cN 35 (cN 31 (cL 31 (o_goto 40)) (cN 34 (cL 34 (o_aload 35 0)) (cL 35 (o_iload 36 1)))) (cN 36 (cL 36 (o_iload 37 2)) (cN 37 (cL 37 (o_callV 40 8 2 tX10_valueBy 0 0)) (cL 40 (o_iret))))))
theorem sX10_finishBy : ∀ pc, Snd tX10_finishBy G1 pc (kX10_finishBy pc) := s_N (s_N (s_N (s_N (s_L (s_aload_n dX10_finishBy_0 rfl)) (s_L (s_iload_n dX10_finishBy_1 rfl))) (s_N (s_L (s_iconst dX10_finishBy_2 (by decide +kernel))) (s_N (s_L (s_iconst dX10_finishBy_3 (by decide +kernel))) (s_L (s_callS (d' := tX10_in) (mc := 0) (ms := 0) cc_X10_finishBy_X10_in qw_1023 qw_1024 dX10_finishBy_4))))) (s_N (s_N (s_L (s_o_if_eq dX10_finishBy_7 (by decide))) (s_N (s_L (s_iload_n dX10_finishBy_10 rfl)) (s_L (s_iconst dX10_finishBy_11 (by decide +kernel))))) (s_N (s_L (s_iconst dX10_finishBy_12 (by decide +kernel))) (s_N (s_L (s_callS (d' := tX10_in) (mc := 0) (ms := 0) cc_X10_finishBy_X10_in qw_1023 qw_1024 dX10_finishBy_13)) (s_L (s_o_if_ne dX10_finishBy_16 (by decide))))))) (s_N (s_N (s_N (s_L (s_iconst dX10_finishBy_19 (by decide +kernel))) (s_N (s_L (s_o_goto dX10_finishBy_20 (by decide))) (s_L (s_iconst dX10_finishBy_23 (by decide +kernel))))) (s_N (s_L (s_callV (d' := tX10_throwsAt) (mc := 0) (ms := 0) ok_8 cc_X10_finishBy_X10_throwsAt qw_1026 qw_1028 qw_31 dX10_finishBy_24)) (s_N (s_L (s_o_if_eq dX10_finishBy_27 (by decide))) (s_L (s_iconst dX10_finishBy_30 (by decide +kernel)))))) (s_N (s_N (s_L (s_o_goto dX10_finishBy_31 (by decide))) (s_N (s_L (s_aload_n dX10_finishBy_34 rfl)) (s_L (s_iload_n dX10_finishBy_35 rfl)))) (s_N (s_L (s_iload_n dX10_finishBy_36 rfl)) (s_N (s_L (s_callV (d' := tX10_valueBy) (mc := 0) (ms := 0) ok_8 cc_X10_finishBy_X10_valueBy qw_1181 qw_1183 qw_56 dX10_finishBy_37)) (s_L (s_iret rfl dX10_finishBy_40))))))
/-! PlateArmModel.best -/
theorem dX10_best_0 : decode cX10_best 0 = .ok (.iconst 0, 1) := by decide +kernel
theorem dX10_best_1 : decode cX10_best 1 = .ok (.istore_n 1, 1) := by decide +kernel
theorem dX10_best_2 : decode cX10_best 2 = .ok (.iconst 1, 1) := by decide +kernel
theorem dX10_best_3 : decode cX10_best 3 = .ok (.istore_n 2, 1) := by decide +kernel
theorem dX10_best_4 : decode cX10_best 4 = .ok (.iload_n 2, 1) := by decide +kernel
theorem dX10_best_5 : decode cX10_best 5 = .ok (.iconst 4, 1) := by decide +kernel
theorem dX10_best_6 : decode cX10_best 6 = .ok (.if_icmp .ge 30, 3) := by decide +kernel
theorem dX10_best_9 : decode cX10_best 9 = .ok (.aload_n 0, 1) := by decide +kernel
theorem dX10_best_10 : decode cX10_best 10 = .ok (.iload_n 2, 1) := by decide +kernel
theorem dX10_best_11 : decode cX10_best 11 = .ok (.iconst 5, 1) := by decide +kernel
theorem dX10_best_12 : decode cX10_best 12 = .ok (.invokevirtual 134, 3) := by decide +kernel
theorem dX10_best_15 : decode cX10_best 15 = .ok (.aload_n 0, 1) := by decide +kernel
theorem dX10_best_16 : decode cX10_best 16 = .ok (.iload_n 1, 1) := by decide +kernel
theorem dX10_best_17 : decode cX10_best 17 = .ok (.iconst 5, 1) := by decide +kernel
theorem dX10_best_18 : decode cX10_best 18 = .ok (.invokevirtual 134, 3) := by decide +kernel
theorem dX10_best_21 : decode cX10_best 21 = .ok (.if_icmp .ge 7, 3) := by decide +kernel
theorem dX10_best_24 : decode cX10_best 24 = .ok (.iload_n 2, 1) := by decide +kernel
theorem dX10_best_25 : decode cX10_best 25 = .ok (.goto 4, 3) := by decide +kernel
theorem dX10_best_28 : decode cX10_best 28 = .ok (.iload_n 1, 1) := by decide +kernel
theorem dX10_best_29 : decode cX10_best 29 = .ok (.istore_n 1, 1) := by decide +kernel
theorem dX10_best_30 : decode cX10_best 30 = .ok (.iinc 2 1, 3) := by decide +kernel
theorem dX10_best_33 : decode cX10_best 33 = .ok (.goto (-29), 3) := by decide +kernel
theorem dX10_best_36 : decode cX10_best 36 = .ok (.iload_n 1, 1) := by decide +kernel
theorem dX10_best_37 : decode cX10_best 37 = .ok (.ireturn, 1) := by decide +kernel
theorem cc_X10_best_X10_valueBy : CallC tX10_best tX10_valueBy 2 := ⟨by decide +kernel, by decide +kernel, by decide +kernel, by decide, by decide, qw_80, qw_1184⟩
def kX10_best : Nat → WOp := cN 15 (cN 5 (cN 2 (cN 0 (cL 0 (o_push 1 0)) (cN 1 (cL 1 (o_istore 2 1)) (cL 2 (o_push 3 1)))) (cN 3 (cL 3 (o_istore 4 2)) (cN 4 (cL 4 (o_iload 5 2)) (cL 5 (o_push 6 4))))) (cN 10 (cN 6 (cL 6 (o_icmp_ge 36 9)) (cN 9 (cL 9 (o_aload 10 0)) (cL 10 (o_iload 11 2)))) (cN 11 (cL 11 (o_push 12 5)) (cN 12 (cL 12 (o_callV 15 8 2 tX10_valueBy 0 0)) (cL 15 (o_aload 16 0)))))) (cN 25 (cN 18 (cN 16 (cL 16 (o_iload 17 1)) (cN 17 (cL 17 (o_push 18 5)) (cL 18 (o_callV 21 8 2 tX10_valueBy 0 0)))) (cN 21 (cL 21 (o_icmp_ge 28 24)) (cN 24 (cL 24 (o_iload 25 2)) (cL 25 (o_goto 29))))) (cN 30 (cN 28 (cL 28 (o_iload 29 1)) (cN 29 (cL 29 (o_istore 30 1)) (cL 30 (o_iinc 33 2 1)))) (cN 33 (cL 33 (o_goto 4)) (cN 36 (cL 36 (o_iload 37 1)) (cL 37 (o_iret))))))
theorem sX10_best : ∀ pc, Snd tX10_best G1 pc (kX10_best pc) := s_N (s_N (s_N (s_N (s_L (s_iconst dX10_best_0 (by decide +kernel))) (s_N (s_L (s_istore_n dX10_best_1 rfl (by decide))) (s_L (s_iconst dX10_best_2 (by decide +kernel))))) (s_N (s_L (s_istore_n dX10_best_3 rfl (by decide))) (s_N (s_L (s_iload_n dX10_best_4 rfl)) (s_L (s_iconst dX10_best_5 (by decide +kernel)))))) (s_N (s_N (s_L (s_o_icmp_ge dX10_best_6 (by decide))) (s_N (s_L (s_aload_n dX10_best_9 rfl)) (s_L (s_iload_n dX10_best_10 rfl)))) (s_N (s_L (s_iconst dX10_best_11 (by decide +kernel))) (s_N (s_L (s_callV (d' := tX10_valueBy) (mc := 0) (ms := 0) ok_8 cc_X10_best_X10_valueBy qw_1181 qw_1183 qw_56 dX10_best_12)) (s_L (s_aload_n dX10_best_15 rfl)))))) (s_N (s_N (s_N (s_L (s_iload_n dX10_best_16 rfl)) (s_N (s_L (s_iconst dX10_best_17 (by decide +kernel))) (s_L (s_callV (d' := tX10_valueBy) (mc := 0) (ms := 0) ok_8 cc_X10_best_X10_valueBy qw_1181 qw_1183 qw_56 dX10_best_18)))) (s_N (s_L (s_o_icmp_ge dX10_best_21 (by decide))) (s_N (s_L (s_iload_n dX10_best_24 rfl)) (s_L (s_o_goto dX10_best_25 (by decide)))))) (s_N (s_N (s_L (s_iload_n dX10_best_28 rfl)) (s_N (s_L (s_istore_n dX10_best_29 rfl (by decide))) (s_L (s_iinc (v := 1) dX10_best_30 (by decide +kernel) (by decide))))) (s_N (s_L (s_o_goto dX10_best_33 (by decide))) (s_N (s_L (s_iload_n dX10_best_36 rfl)) (s_L (s_iret rfl dX10_best_37))))))
/-! PlateArmModel.bestWay -/
theorem dX10_bestWay_0 : decode cX10_bestWay 0 = .ok (.aload_n 0, 1) := by decide +kernel
theorem dX10_bestWay_1 : decode cX10_bestWay 1 = .ok (.iconst 0, 1) := by decide +kernel
theorem dX10_bestWay_2 : decode cX10_bestWay 2 = .ok (.putfield 29, 3) := by decide +kernel
theorem dX10_bestWay_5 : decode cX10_bestWay 5 = .ok (.aload_n 0, 1) := by decide +kernel
theorem dX10_bestWay_6 : decode cX10_bestWay 6 = .ok (.invokevirtual 137, 3) := by decide +kernel
theorem dX10_bestWay_9 : decode cX10_bestWay 9 = .ok (.ireturn, 1) := by decide +kernel
theorem cc_X10_bestWay_X10_best : CallC tX10_bestWay tX10_best 0 := ⟨by decide +kernel, by decide +kernel, by decide +kernel, by decide, by decide, qw_80, qw_1192⟩
def kX10_bestWay : Nat → WOp := cN 2 (cN 0 (cL 0 (o_aload 1 0)) (cN 1 (cL 1 (o_push 2 0)) (cL 2 (o_puti 5 8 7)))) (cN 5 (cL 5 (o_aload 6 0)) (cN 6 (cL 6 (o_callV 9 8 0 tX10_best 0 0)) (cL 9 (o_iret))))
theorem sX10_bestWay : ∀ pc, Snd tX10_bestWay G1 pc (kX10_bestWay pc) := s_N (s_N (s_L (s_aload_n dX10_bestWay_0 rfl)) (s_N (s_L (s_iconst dX10_bestWay_1 (by decide +kernel))) (s_L (s_puti ok_8 (k := 7) (by decide) rfl (Or.inl rfl) dX10_bestWay_2 qw_979)))) (s_N (s_L (s_aload_n dX10_bestWay_5 rfl)) (s_N (s_L (s_callV (d' := tX10_best) (mc := 0) (ms := 0) ok_8 cc_X10_bestWay_X10_best qw_1189 qw_1191 qw_57 dX10_bestWay_6)) (s_L (s_iret rfl dX10_bestWay_9))))
/-! PlateArmModel.heatBehind -/
theorem dX10_heatBehind_0 : decode cX10_heatBehind 0 = .ok (.aload_n 0, 1) := by decide +kernel
theorem dX10_heatBehind_1 : decode cX10_heatBehind 1 = .ok (.invokevirtual 107, 3) := by decide +kernel
theorem dX10_heatBehind_4 : decode cX10_heatBehind 4 = .ok (.iconst 0, 1) := by decide +kernel
theorem dX10_heatBehind_5 : decode cX10_heatBehind 5 = .ok (.istore_n 2, 1) := by decide +kernel
theorem dX10_heatBehind_6 : decode cX10_heatBehind 6 = .ok (.iload_n 2, 1) := by decide +kernel
theorem dX10_heatBehind_7 : decode cX10_heatBehind 7 = .ok (.iload_n 1, 1) := by decide +kernel
theorem dX10_heatBehind_8 : decode cX10_heatBehind 8 = .ok (.if_icmp .ge 13, 3) := by decide +kernel
theorem dX10_heatBehind_11 : decode cX10_heatBehind 11 = .ok (.aload_n 0, 1) := by decide +kernel
theorem dX10_heatBehind_12 : decode cX10_heatBehind 12 = .ok (.invokevirtual 104, 3) := by decide +kernel
theorem dX10_heatBehind_15 : decode cX10_heatBehind 15 = .ok (.iinc 2 1, 3) := by decide +kernel
theorem dX10_heatBehind_18 : decode cX10_heatBehind 18 = .ok (.goto (-12), 3) := by decide +kernel
theorem dX10_heatBehind_21 : decode cX10_heatBehind 21 = .ok (.aload_n 0, 1) := by decide +kernel
theorem dX10_heatBehind_22 : decode cX10_heatBehind 22 = .ok (.getfield 7, 3) := by decide +kernel
theorem dX10_heatBehind_25 : decode cX10_heatBehind 25 = .ok (.bipush 18, 2) := by decide +kernel
theorem dX10_heatBehind_27 : decode cX10_heatBehind 27 = .ok (.iaload, 1) := by decide +kernel
theorem dX10_heatBehind_28 : decode cX10_heatBehind 28 = .ok (.istore_n 2, 1) := by decide +kernel
theorem dX10_heatBehind_29 : decode cX10_heatBehind 29 = .ok (.aload_n 0, 1) := by decide +kernel
theorem dX10_heatBehind_30 : decode cX10_heatBehind 30 = .ok (.invokevirtual 113, 3) := by decide +kernel
theorem dX10_heatBehind_33 : decode cX10_heatBehind 33 = .ok (.iload_n 2, 1) := by decide +kernel
theorem dX10_heatBehind_34 : decode cX10_heatBehind 34 = .ok (.ireturn, 1) := by decide +kernel
theorem cc_X10_heatBehind_X10_holds : CallC tX10_heatBehind tX10_holds 0 := ⟨by decide +kernel, by decide +kernel, by decide +kernel, by decide, by decide, qw_80, qw_1120⟩
theorem cc_X10_heatBehind_X10_ticks : CallC tX10_heatBehind tX10_ticks 0 := ⟨by decide +kernel, by decide +kernel, by decide +kernel, by decide, by decide, qw_80, qw_1065⟩
theorem cc_X10_heatBehind_X10_lets : CallC tX10_heatBehind tX10_lets 0 := ⟨by decide +kernel, by decide +kernel, by decide +kernel, by decide, by decide, qw_80, qw_1128⟩
def kX10_heatBehind : Nat → WOp := cN 15 (cN 6 (cN 1 (cN 0 (cL 0 (o_aload 1 0)) (cL 1 (o_callV 4 8 0 tX10_holds 0 0))) (cN 4 (cL 4 (o_push 5 0)) (cN 5 (cL 5 (o_istore 6 2)) (cL 6 (o_iload 7 2))))) (cN 8 (cN 7 (cL 7 (o_iload 8 1)) (cL 8 (o_icmp_ge 21 11))) (cN 11 (cL 11 (o_aload 12 0)) (cN 12 (cL 12 (o_callV 15 8 0 tX10_ticks 0 0)) (cL 15 (o_iinc 18 2 1)))))) (cN 27 (cN 21 (cN 18 (cL 18 (o_goto 6)) (cL 21 (o_aload 22 0))) (cN 22 (cL 22 (o_getf 25 8 0)) (cN 25 (cL 25 (o_push 27 18)) (cL 27 (o_iald 28))))) (cN 29 (cN 28 (cL 28 (o_istore 29 2)) (cL 29 (o_aload 30 0))) (cN 30 (cL 30 (o_callV 33 8 0 tX10_lets 0 0)) (cN 33 (cL 33 (o_iload 34 2)) (cL 34 (o_iret))))))
theorem sX10_heatBehind : ∀ pc, Snd tX10_heatBehind G1 pc (kX10_heatBehind pc) := s_N (s_N (s_N (s_N (s_L (s_aload_n dX10_heatBehind_0 rfl)) (s_L (s_callV (d' := tX10_holds) (mc := 0) (ms := 0) ok_8 cc_X10_heatBehind_X10_holds qw_1117 qw_1119 qw_48 dX10_heatBehind_1))) (s_N (s_L (s_iconst dX10_heatBehind_4 (by decide +kernel))) (s_N (s_L (s_istore_n dX10_heatBehind_5 rfl (by decide))) (s_L (s_iload_n dX10_heatBehind_6 rfl))))) (s_N (s_N (s_L (s_iload_n dX10_heatBehind_7 rfl)) (s_L (s_o_icmp_ge dX10_heatBehind_8 (by decide)))) (s_N (s_L (s_aload_n dX10_heatBehind_11 rfl)) (s_N (s_L (s_callV (d' := tX10_ticks) (mc := 0) (ms := 0) ok_8 cc_X10_heatBehind_X10_ticks qw_1062 qw_1064 qw_36 dX10_heatBehind_12)) (s_L (s_iinc (v := 1) dX10_heatBehind_15 (by decide +kernel) (by decide))))))) (s_N (s_N (s_N (s_L (s_o_goto dX10_heatBehind_18 (by decide))) (s_L (s_aload_n dX10_heatBehind_21 rfl))) (s_N (s_L (s_getf ok_8 (k := 0) (by decide) dX10_heatBehind_22 qw_972)) (s_N (s_L (s_bipush dX10_heatBehind_25 (by decide +kernel))) (s_L (s_iald dX10_heatBehind_27))))) (s_N (s_N (s_L (s_istore_n dX10_heatBehind_28 rfl (by decide))) (s_L (s_aload_n dX10_heatBehind_29 rfl))) (s_N (s_L (s_callV (d' := tX10_lets) (mc := 0) (ms := 0) ok_8 cc_X10_heatBehind_X10_lets qw_1125 qw_1127 qw_50 dX10_heatBehind_30)) (s_N (s_L (s_iload_n dX10_heatBehind_33 rfl)) (s_L (s_iret rfl dX10_heatBehind_34))))))
/-! PlateArmModel.heatIn -/
theorem dX10_heatIn_0 : decode cX10_heatIn 0 = .ok (.aload_n 0, 1) := by decide +kernel
theorem dX10_heatIn_1 : decode cX10_heatIn 1 = .ok (.iload_n 1, 1) := by decide +kernel
theorem dX10_heatIn_2 : decode cX10_heatIn 2 = .ok (.iconst 0, 1) := by decide +kernel
theorem dX10_heatIn_3 : decode cX10_heatIn 3 = .ok (.bipush 99, 2) := by decide +kernel
theorem dX10_heatIn_5 : decode cX10_heatIn 5 = .ok (.invokestatic 90, 3) := by decide +kernel
theorem dX10_heatIn_8 : decode cX10_heatIn 8 = .ok (.ifCond .eq 7, 3) := by decide +kernel
theorem dX10_heatIn_11 : decode cX10_heatIn 11 = .ok (.iconst 0, 1) := by decide +kernel
theorem dX10_heatIn_12 : decode cX10_heatIn 12 = .ok (.goto 4, 3) := by decide +kernel
theorem dX10_heatIn_15 : decode cX10_heatIn 15 = .ok (.iconst 1, 1) := by decide +kernel
theorem dX10_heatIn_16 : decode cX10_heatIn 16 = .ok (.invokevirtual 94, 3) := by decide +kernel
theorem dX10_heatIn_19 : decode cX10_heatIn 19 = .ok (.ifCond .eq 7, 3) := by decide +kernel
theorem dX10_heatIn_22 : decode cX10_heatIn 22 = .ok (.iconst 0, 1) := by decide +kernel
theorem dX10_heatIn_23 : decode cX10_heatIn 23 = .ok (.goto 8, 3) := by decide +kernel
theorem dX10_heatIn_26 : decode cX10_heatIn 26 = .ok (.aload_n 0, 1) := by decide +kernel
theorem dX10_heatIn_27 : decode cX10_heatIn 27 = .ok (.iload_n 1, 1) := by decide +kernel
theorem dX10_heatIn_28 : decode cX10_heatIn 28 = .ok (.invokevirtual 140, 3) := by decide +kernel
theorem dX10_heatIn_31 : decode cX10_heatIn 31 = .ok (.ireturn, 1) := by decide +kernel
theorem cc_X10_heatIn_X10_in : CallC tX10_heatIn tX10_in 3 := ⟨by decide +kernel, by decide +kernel, by decide +kernel, by decide, by decide, qw_80, qw_1025⟩
theorem cc_X10_heatIn_X10_throwsAt : CallC tX10_heatIn tX10_throwsAt 1 := ⟨by decide +kernel, by decide +kernel, by decide +kernel, by decide, by decide, qw_80, qw_1029⟩
theorem cc_X10_heatIn_X10_heatBehind : CallC tX10_heatIn tX10_heatBehind 1 := ⟨by decide +kernel, by decide +kernel, by decide +kernel, by decide, by decide, qw_80, qw_1200⟩
def kX10_heatIn : Nat → WOp := cN 12 (cN 3 (cN 1 (cN 0 (cL 0 (o_aload 1 0)) (cL 1 (o_iload 2 1))) (cN 2 (cL 2 (o_push 3 0)) (cL 3 (o_push 5 99)))) (cN 8 (cN 5 (cL 5 (o_callS 8 3 tX10_in 0 0)) (cL 8 (o_if_eq 15 11))) (cN 11 (cL 11 (o_push 12 0)) (cL 12 (o_goto 16))))) (cN 22 (cN 16 (cN 15 (cL 15 (o_push 16 1)) (cL 16 (o_callV 19 8 1 tX10_throwsAt 0 0))) (cN 19 (cL 19 (o_if_eq 26 22)) (cL 22 (o_push 23 0)))) (cN 26 (cN 23 (cL 23 (o_goto 31)) (cL 26 (o_aload 27 0))) (cN 27 (cL 27 (o_iload 28 1)) (cN 28 (cL 28 (o_callV 31 8 1 tX10_heatBehind 0 0)) (cL 31 (o_iret))))))
theorem sX10_heatIn : ∀ pc, Snd tX10_heatIn G1 pc (kX10_heatIn pc) := s_N (s_N (s_N (s_N (s_L (s_aload_n dX10_heatIn_0 rfl)) (s_L (s_iload_n dX10_heatIn_1 rfl))) (s_N (s_L (s_iconst dX10_heatIn_2 (by decide +kernel))) (s_L (s_bipush dX10_heatIn_3 (by decide +kernel))))) (s_N (s_N (s_L (s_callS (d' := tX10_in) (mc := 0) (ms := 0) cc_X10_heatIn_X10_in qw_1023 qw_1024 dX10_heatIn_5)) (s_L (s_o_if_eq dX10_heatIn_8 (by decide)))) (s_N (s_L (s_iconst dX10_heatIn_11 (by decide +kernel))) (s_L (s_o_goto dX10_heatIn_12 (by decide)))))) (s_N (s_N (s_N (s_L (s_iconst dX10_heatIn_15 (by decide +kernel))) (s_L (s_callV (d' := tX10_throwsAt) (mc := 0) (ms := 0) ok_8 cc_X10_heatIn_X10_throwsAt qw_1026 qw_1028 qw_31 dX10_heatIn_16))) (s_N (s_L (s_o_if_eq dX10_heatIn_19 (by decide))) (s_L (s_iconst dX10_heatIn_22 (by decide +kernel))))) (s_N (s_N (s_L (s_o_goto dX10_heatIn_23 (by decide))) (s_L (s_aload_n dX10_heatIn_26 rfl))) (s_N (s_L (s_iload_n dX10_heatIn_27 rfl)) (s_N (s_L (s_callV (d' := tX10_heatBehind) (mc := 0) (ms := 0) ok_8 cc_X10_heatIn_X10_heatBehind qw_1197 qw_1199 qw_58 dX10_heatIn_28)) (s_L (s_iret rfl dX10_heatIn_31))))))
/-! PlateArmModel.widestNow -/
theorem dX10_widestNow_0 : decode cX10_widestNow 0 = .ok (.iconst 0, 1) := by decide +kernel
theorem dX10_widestNow_1 : decode cX10_widestNow 1 = .ok (.istore_n 1, 1) := by decide +kernel
theorem dX10_widestNow_2 : decode cX10_widestNow 2 = .ok (.iconst 0, 1) := by decide +kernel
theorem dX10_widestNow_3 : decode cX10_widestNow 3 = .ok (.istore_n 2, 1) := by decide +kernel
theorem dX10_widestNow_4 : decode cX10_widestNow 4 = .ok (.iload_n 2, 1) := by decide +kernel
theorem dX10_widestNow_5 : decode cX10_widestNow 5 = .ok (.aload_n 0, 1) := by decide +kernel
theorem dX10_widestNow_6 : decode cX10_widestNow 6 = .ok (.getfield 7, 3) := by decide +kernel
theorem dX10_widestNow_9 : decode cX10_widestNow 9 = .ok (.bipush 21, 2) := by decide +kernel
theorem dX10_widestNow_11 : decode cX10_widestNow 11 = .ok (.iaload, 1) := by decide +kernel
theorem dX10_widestNow_12 : decode cX10_widestNow 12 = .ok (.if_icmp .ge 53, 3) := by decide +kernel
theorem dX10_widestNow_15 : decode cX10_widestNow 15 = .ok (.iconst 0, 1) := by decide +kernel
theorem dX10_widestNow_16 : decode cX10_widestNow 16 = .ok (.istore_n 3, 1) := by decide +kernel
theorem dX10_widestNow_17 : decode cX10_widestNow 17 = .ok (.iload_n 3, 1) := by decide +kernel
theorem dX10_widestNow_18 : decode cX10_widestNow 18 = .ok (.iload_n 2, 1) := by decide +kernel
theorem dX10_widestNow_19 : decode cX10_widestNow 19 = .ok (.if_icmp .ge 40, 3) := by decide +kernel
theorem dX10_widestNow_22 : decode cX10_widestNow 22 = .ok (.aload_n 0, 1) := by decide +kernel
theorem dX10_widestNow_23 : decode cX10_widestNow 23 = .ok (.iload_n 2, 1) := by decide +kernel
theorem dX10_widestNow_24 : decode cX10_widestNow 24 = .ok (.iconst 1, 1) := by decide +kernel
theorem dX10_widestNow_25 : decode cX10_widestNow 25 = .ok (.invokevirtual 39, 3) := by decide +kernel
theorem dX10_widestNow_28 : decode cX10_widestNow 28 = .ok (.aload_n 0, 1) := by decide +kernel
theorem dX10_widestNow_29 : decode cX10_widestNow 29 = .ok (.iload_n 3, 1) := by decide +kernel
theorem dX10_widestNow_30 : decode cX10_widestNow 30 = .ok (.iconst 1, 1) := by decide +kernel
theorem dX10_widestNow_31 : decode cX10_widestNow 31 = .ok (.invokevirtual 39, 3) := by decide +kernel
theorem dX10_widestNow_34 : decode cX10_widestNow 34 = .ok (.isub, 1) := by decide +kernel
theorem dX10_widestNow_35 : decode cX10_widestNow 35 = .ok (.invokestatic 43, 3) := by decide +kernel
theorem dX10_widestNow_38 : decode cX10_widestNow 38 = .ok (.istore 4, 2) := by decide +kernel
theorem dX10_widestNow_40 : decode cX10_widestNow 40 = .ok (.iload 4, 2) := by decide +kernel
theorem dX10_widestNow_42 : decode cX10_widestNow 42 = .ok (.iload_n 1, 1) := by decide +kernel
theorem dX10_widestNow_43 : decode cX10_widestNow 43 = .ok (.if_icmp .le 8, 3) := by decide +kernel
theorem dX10_widestNow_46 : decode cX10_widestNow 46 = .ok (.iload 4, 2) := by decide +kernel
theorem dX10_widestNow_48 : decode cX10_widestNow 48 = .ok (.goto 4, 3) := by decide +kernel
theorem dX10_widestNow_51 : decode cX10_widestNow 51 = .ok (.iload_n 1, 1) := by decide +kernel
theorem dX10_widestNow_52 : decode cX10_widestNow 52 = .ok (.istore_n 1, 1) := by decide +kernel
theorem dX10_widestNow_53 : decode cX10_widestNow 53 = .ok (.iinc 3 1, 3) := by decide +kernel
theorem dX10_widestNow_56 : decode cX10_widestNow 56 = .ok (.goto (-39), 3) := by decide +kernel
theorem dX10_widestNow_59 : decode cX10_widestNow 59 = .ok (.iinc 2 1, 3) := by decide +kernel
theorem dX10_widestNow_62 : decode cX10_widestNow 62 = .ok (.goto (-58), 3) := by decide +kernel
theorem dX10_widestNow_65 : decode cX10_widestNow 65 = .ok (.iload_n 1, 1) := by decide +kernel
theorem dX10_widestNow_66 : decode cX10_widestNow 66 = .ok (.ireturn, 1) := by decide +kernel
theorem cc_X10_widestNow_X10_of : CallC tX10_widestNow tX10_of 2 := ⟨by decide +kernel, by decide +kernel, by decide +kernel, by decide, by decide, qw_80, qw_1049⟩
theorem cc_X10_widestNow_X10_size : CallC tX10_widestNow tX10_size 1 := ⟨by decide +kernel, by decide +kernel, by decide +kernel, by decide, by decide, qw_80, qw_1088⟩
def kX10_widestNow : Nat → WOp := cN 25 (cN 11 (cN 3 (cN 1 (cN 0 (cL 0 (o_push 1 0)) (cL 1 (o_istore 2 1))) (cN 2 (cL 2 (o_push 3 0)) (cL 3 (o_istore 4 2)))) (cN 5 (cN 4 (cL 4 (o_iload 5 2)) (cL 5 (o_aload 6 0))) (cN 6 (cL 6 (o_getf 9 8 0)) (cN 9 (cL 9 (o_push 11 21)) (cL 11 (o_iald 12)))))) (cN 18 (cN 15 (cN 12 (cL 12 (o_icmp_ge 65 15)) (cL 15 (o_push 16 0))) (cN 16 (cL 16 (o_istore 17 3)) (cN 17 (cL 17 (o_iload 18 3)) (cL 18 (o_iload 19 2))))) (cN 22 (cN 19 (cL 19 (o_icmp_ge 59 22)) (cL 22 (o_aload 23 0))) (cN 23 (cL 23 (o_iload 24 2)) (cN 24 (cL 24 (o_push 25 1)) (cL 25 (o_callV 28 8 2 tX10_of 0 0))))))) (cN 43 (cN 34 (cN 29 (cN 28 (cL 28 (o_aload 29 0)) (cL 29 (o_iload 30 3))) (cN 30 (cL 30 (o_push 31 1)) (cN 31 (cL 31 (o_callV 34 8 2 tX10_of 0 0)) (cL 34 (o_isub 35))))) (cN 38 (cN 35 (cL 35 (o_callS 38 1 tX10_size 0 0)) (cL 38 (o_istore 40 4))) (cN 40 (cL 40 (o_iload 42 4)) (cN 42 (cL 42 (o_iload 43 1)) (cL 43 (o_icmp_le 51 46)))))) (cN 53 (cN 48 (cN 46 (cL 46 (o_iload 48 4)) (cL 48 (o_goto 52))) (cN 51 (cL 51 (o_iload 52 1)) (cN 52 (cL 52 (o_istore 53 1)) (cL 53 (o_iinc 56 3 1))))) (cN 59 (cN 56 (cL 56 (o_goto 17)) (cL 59 (o_iinc 62 2 1))) (cN 62 (cL 62 (o_goto 4)) (cN 65 (cL 65 (o_iload 66 1)) (cL 66 (o_iret)))))))
theorem sX10_widestNow : ∀ pc, Snd tX10_widestNow G1 pc (kX10_widestNow pc) := s_N (s_N (s_N (s_N (s_N (s_L (s_iconst dX10_widestNow_0 (by decide +kernel))) (s_L (s_istore_n dX10_widestNow_1 rfl (by decide)))) (s_N (s_L (s_iconst dX10_widestNow_2 (by decide +kernel))) (s_L (s_istore_n dX10_widestNow_3 rfl (by decide))))) (s_N (s_N (s_L (s_iload_n dX10_widestNow_4 rfl)) (s_L (s_aload_n dX10_widestNow_5 rfl))) (s_N (s_L (s_getf ok_8 (k := 0) (by decide) dX10_widestNow_6 qw_972)) (s_N (s_L (s_bipush dX10_widestNow_9 (by decide +kernel))) (s_L (s_iald dX10_widestNow_11)))))) (s_N (s_N (s_N (s_L (s_o_icmp_ge dX10_widestNow_12 (by decide))) (s_L (s_iconst dX10_widestNow_15 (by decide +kernel)))) (s_N (s_L (s_istore_n dX10_widestNow_16 rfl (by decide))) (s_N (s_L (s_iload_n dX10_widestNow_17 rfl)) (s_L (s_iload_n dX10_widestNow_18 rfl))))) (s_N (s_N (s_L (s_o_icmp_ge dX10_widestNow_19 (by decide))) (s_L (s_aload_n dX10_widestNow_22 rfl))) (s_N (s_L (s_iload_n dX10_widestNow_23 rfl)) (s_N (s_L (s_iconst dX10_widestNow_24 (by decide +kernel))) (s_L (s_callV (d' := tX10_of) (mc := 0) (ms := 0) ok_8 cc_X10_widestNow_X10_of qw_1046 qw_1048 qw_34 dX10_widestNow_25))))))) (s_N (s_N (s_N (s_N (s_L (s_aload_n dX10_widestNow_28 rfl)) (s_L (s_iload_n dX10_widestNow_29 rfl))) (s_N (s_L (s_iconst dX10_widestNow_30 (by decide +kernel))) (s_N (s_L (s_callV (d' := tX10_of) (mc := 0) (ms := 0) ok_8 cc_X10_widestNow_X10_of qw_1046 qw_1048 qw_34 dX10_widestNow_31)) (s_L (s_o_isub dX10_widestNow_34))))) (s_N (s_N (s_L (s_callS (d' := tX10_size) (mc := 0) (ms := 0) cc_X10_widestNow_X10_size qw_1086 qw_1087 dX10_widestNow_35)) (s_L (s_istore dX10_widestNow_38 (by decide)))) (s_N (s_L (s_iload dX10_widestNow_40)) (s_N (s_L (s_iload_n dX10_widestNow_42 rfl)) (s_L (s_o_icmp_le dX10_widestNow_43 (by decide))))))) (s_N (s_N (s_N (s_L (s_iload dX10_widestNow_46)) (s_L (s_o_goto dX10_widestNow_48 (by decide)))) (s_N (s_L (s_iload_n dX10_widestNow_51 rfl)) (s_N (s_L (s_istore_n dX10_widestNow_52 rfl (by decide))) (s_L (s_iinc (v := 1) dX10_widestNow_53 (by decide +kernel) (by decide)))))) (s_N (s_N (s_L (s_o_goto dX10_widestNow_56 (by decide))) (s_L (s_iinc (v := 1) dX10_widestNow_59 (by decide +kernel) (by decide)))) (s_N (s_L (s_o_goto dX10_widestNow_62 (by decide))) (s_N (s_L (s_iload_n dX10_widestNow_65 rfl)) (s_L (s_iret rfl dX10_widestNow_66)))))))
/-! PlateArmModel.widest -/
theorem dX10_widest_0 : decode cX10_widest 0 = .ok (.aload_n 0, 1) := by decide +kernel
theorem dX10_widest_1 : decode cX10_widest 1 = .ok (.iconst 0, 1) := by decide +kernel
theorem dX10_widest_2 : decode cX10_widest 2 = .ok (.putfield 29, 3) := by decide +kernel
theorem dX10_widest_5 : decode cX10_widest 5 = .ok (.aload_n 0, 1) := by decide +kernel
theorem dX10_widest_6 : decode cX10_widest 6 = .ok (.invokevirtual 143, 3) := by decide +kernel
theorem dX10_widest_9 : decode cX10_widest 9 = .ok (.ireturn, 1) := by decide +kernel
theorem cc_X10_widest_X10_widestNow : CallC tX10_widest tX10_widestNow 0 := ⟨by decide +kernel, by decide +kernel, by decide +kernel, by decide, by decide, qw_80, qw_1208⟩
def kX10_widest : Nat → WOp := cN 2 (cN 0 (cL 0 (o_aload 1 0)) (cN 1 (cL 1 (o_push 2 0)) (cL 2 (o_puti 5 8 7)))) (cN 5 (cL 5 (o_aload 6 0)) (cN 6 (cL 6 (o_callV 9 8 0 tX10_widestNow 0 0)) (cL 9 (o_iret))))
theorem sX10_widest : ∀ pc, Snd tX10_widest G1 pc (kX10_widest pc) := s_N (s_N (s_L (s_aload_n dX10_widest_0 rfl)) (s_N (s_L (s_iconst dX10_widest_1 (by decide +kernel))) (s_L (s_puti ok_8 (k := 7) (by decide) rfl (Or.inl rfl) dX10_widest_2 qw_979)))) (s_N (s_L (s_aload_n dX10_widest_5 rfl)) (s_N (s_L (s_callV (d' := tX10_widestNow) (mc := 0) (ms := 0) ok_8 cc_X10_widest_X10_widestNow qw_1205 qw_1207 qw_59 dX10_widest_6)) (s_L (s_iret rfl dX10_widest_9))))
/-! PlateArmModel.reason -/
theorem dX10_reason_0 : decode cX10_reason 0 = .ok (.aload_n 0, 1) := by decide +kernel
theorem dX10_reason_1 : decode cX10_reason 1 = .ok (.iload_n 1, 1) := by decide +kernel
theorem dX10_reason_2 : decode cX10_reason 2 = .ok (.invokevirtual 101, 3) := by decide +kernel
theorem dX10_reason_5 : decode cX10_reason 5 = .ok (.istore_n 2, 1) := by decide +kernel
theorem dX10_reason_6 : decode cX10_reason 6 = .ok (.aload_n 0, 1) := by decide +kernel
theorem dX10_reason_7 : decode cX10_reason 7 = .ok (.iload_n 2, 1) := by decide +kernel
theorem dX10_reason_8 : decode cX10_reason 8 = .ok (.iconst (-1), 1) := by decide +kernel
theorem dX10_reason_9 : decode cX10_reason 9 = .ok (.if_icmp .ne 7, 3) := by decide +kernel
theorem dX10_reason_12 : decode cX10_reason 12 = .ok (.iconst 1, 1) := by decide +kernel
theorem dX10_reason_13 : decode cX10_reason 13 = .ok (.goto 4, 3) := by decide +kernel
theorem dX10_reason_16 : decode cX10_reason 16 = .ok (.iconst 0, 1) := by decide +kernel
theorem dX10_reason_17 : decode cX10_reason 17 = .ok (.invokevirtual 94, 3) := by decide +kernel
theorem dX10_reason_20 : decode cX10_reason 20 = .ok (.ifCond .eq 5, 3) := by decide +kernel
theorem dX10_reason_23 : decode cX10_reason 23 = .ok (.iconst 0, 1) := by decide +kernel
theorem dX10_reason_24 : decode cX10_reason 24 = .ok (.ireturn, 1) := by decide +kernel
theorem dX10_reason_25 : decode cX10_reason 25 = .ok (.aload_n 0, 1) := by decide +kernel
theorem dX10_reason_26 : decode cX10_reason 26 = .ok (.getfield 7, 3) := by decide +kernel
theorem dX10_reason_29 : decode cX10_reason 29 = .ok (.bipush 17, 2) := by decide +kernel
theorem dX10_reason_31 : decode cX10_reason 31 = .ok (.iaload, 1) := by decide +kernel
theorem dX10_reason_32 : decode cX10_reason 32 = .ok (.ifCond .eq 5, 3) := by decide +kernel
theorem dX10_reason_35 : decode cX10_reason 35 = .ok (.iconst 1, 1) := by decide +kernel
theorem dX10_reason_36 : decode cX10_reason 36 = .ok (.ireturn, 1) := by decide +kernel
theorem dX10_reason_37 : decode cX10_reason 37 = .ok (.aload_n 0, 1) := by decide +kernel
theorem dX10_reason_38 : decode cX10_reason 38 = .ok (.iload_n 2, 1) := by decide +kernel
theorem dX10_reason_39 : decode cX10_reason 39 = .ok (.iconst 1, 1) := by decide +kernel
theorem dX10_reason_40 : decode cX10_reason 40 = .ok (.invokevirtual 39, 3) := by decide +kernel
theorem dX10_reason_43 : decode cX10_reason 43 = .ok (.aload_n 0, 1) := by decide +kernel
theorem dX10_reason_44 : decode cX10_reason 44 = .ok (.getfield 7, 3) := by decide +kernel
theorem dX10_reason_47 : decode cX10_reason 47 = .ok (.bipush 16, 2) := by decide +kernel
theorem dX10_reason_49 : decode cX10_reason 49 = .ok (.iaload, 1) := by decide +kernel
theorem dX10_reason_50 : decode cX10_reason 50 = .ok (.if_icmp .eq 5, 3) := by decide +kernel
theorem dX10_reason_53 : decode cX10_reason 53 = .ok (.iconst 2, 1) := by decide +kernel
theorem dX10_reason_54 : decode cX10_reason 54 = .ok (.ireturn, 1) := by decide +kernel
theorem dX10_reason_55 : decode cX10_reason 55 = .ok (.aload_n 0, 1) := by decide +kernel
theorem dX10_reason_56 : decode cX10_reason 56 = .ok (.getfield 7, 3) := by decide +kernel
theorem dX10_reason_59 : decode cX10_reason 59 = .ok (.bipush 19, 2) := by decide +kernel
theorem dX10_reason_61 : decode cX10_reason 61 = .ok (.iaload, 1) := by decide +kernel
theorem dX10_reason_62 : decode cX10_reason 62 = .ok (.ifCond .ne 30, 3) := by decide +kernel
theorem dX10_reason_65 : decode cX10_reason 65 = .ok (.aload_n 0, 1) := by decide +kernel
theorem dX10_reason_66 : decode cX10_reason 66 = .ok (.aload_n 0, 1) := by decide +kernel
theorem dX10_reason_67 : decode cX10_reason 67 = .ok (.aload_n 0, 1) := by decide +kernel
theorem dX10_reason_68 : decode cX10_reason 68 = .ok (.getfield 7, 3) := by decide +kernel
theorem dX10_reason_71 : decode cX10_reason 71 = .ok (.iconst 2, 1) := by decide +kernel
theorem dX10_reason_72 : decode cX10_reason 72 = .ok (.iaload, 1) := by decide +kernel
theorem dX10_reason_73 : decode cX10_reason 73 = .ok (.invokevirtual 78, 3) := by decide +kernel
theorem dX10_reason_76 : decode cX10_reason 76 = .ok (.iconst 1, 1) := by decide +kernel
theorem dX10_reason_77 : decode cX10_reason 77 = .ok (.invokevirtual 39, 3) := by decide +kernel
theorem dX10_reason_80 : decode cX10_reason 80 = .ok (.aload_n 0, 1) := by decide +kernel
theorem dX10_reason_81 : decode cX10_reason 81 = .ok (.getfield 7, 3) := by decide +kernel
theorem dX10_reason_84 : decode cX10_reason 84 = .ok (.bipush 16, 2) := by decide +kernel
theorem dX10_reason_86 : decode cX10_reason 86 = .ok (.iaload, 1) := by decide +kernel
theorem dX10_reason_87 : decode cX10_reason 87 = .ok (.if_icmp .eq 5, 3) := by decide +kernel
theorem dX10_reason_90 : decode cX10_reason 90 = .ok (.iconst 3, 1) := by decide +kernel
theorem dX10_reason_91 : decode cX10_reason 91 = .ok (.ireturn, 1) := by decide +kernel
theorem dX10_reason_92 : decode cX10_reason 92 = .ok (.aload_n 0, 1) := by decide +kernel
theorem dX10_reason_93 : decode cX10_reason 93 = .ok (.iload_n 2, 1) := by decide +kernel
theorem dX10_reason_94 : decode cX10_reason 94 = .ok (.iconst 2, 1) := by decide +kernel
theorem dX10_reason_95 : decode cX10_reason 95 = .ok (.invokevirtual 39, 3) := by decide +kernel
theorem dX10_reason_98 : decode cX10_reason 98 = .ok (.aload_n 0, 1) := by decide +kernel
theorem dX10_reason_99 : decode cX10_reason 99 = .ok (.getfield 7, 3) := by decide +kernel
theorem dX10_reason_102 : decode cX10_reason 102 = .ok (.bipush 6, 2) := by decide +kernel
theorem dX10_reason_104 : decode cX10_reason 104 = .ok (.iaload, 1) := by decide +kernel
theorem dX10_reason_105 : decode cX10_reason 105 = .ok (.aload_n 0, 1) := by decide +kernel
theorem dX10_reason_106 : decode cX10_reason 106 = .ok (.getfield 7, 3) := by decide +kernel
theorem dX10_reason_109 : decode cX10_reason 109 = .ok (.iconst 1, 1) := by decide +kernel
theorem dX10_reason_110 : decode cX10_reason 110 = .ok (.iaload, 1) := by decide +kernel
theorem dX10_reason_111 : decode cX10_reason 111 = .ok (.irem, 1) := by decide +kernel
theorem dX10_reason_112 : decode cX10_reason 112 = .ok (.if_icmp .ne 7, 3) := by decide +kernel
theorem dX10_reason_115 : decode cX10_reason 115 = .ok (.iconst 0, 1) := by decide +kernel
theorem dX10_reason_116 : decode cX10_reason 116 = .ok (.goto 4, 3) := by decide +kernel
theorem dX10_reason_119 : decode cX10_reason 119 = .ok (.iconst 4, 1) := by decide +kernel
theorem dX10_reason_120 : decode cX10_reason 120 = .ok (.ireturn, 1) := by decide +kernel
theorem cc_X10_reason_X10_placeOf : CallC tX10_reason tX10_placeOf 1 := ⟨by decide +kernel, by decide +kernel, by decide +kernel, by decide, by decide, qw_80, qw_1045⟩
theorem cc_X10_reason_X10_throwsAt : CallC tX10_reason tX10_throwsAt 1 := ⟨by decide +kernel, by decide +kernel, by decide +kernel, by decide, by decide, qw_80, qw_1029⟩
theorem cc_X10_reason_X10_of : CallC tX10_reason tX10_of 2 := ⟨by decide +kernel, by decide +kernel, by decide +kernel, by decide, by decide, qw_80, qw_1049⟩
theorem cc_X10_reason_X10_targetBy : CallC tX10_reason tX10_targetBy 1 := ⟨by decide +kernel, by decide +kernel, by decide +kernel, by decide, by decide, qw_80, qw_1069⟩
def kX10_reason : Nat → WOp := cN 59 (cN 29 (cN 12 (cN 5 (cN 1 (cN 0 (cL 0 (o_aload 1 0)) (cL 1 (o_iload 2 1))) (cN 2 (cL 2 (o_callV 5 8 1 tX10_placeOf 0 0)) (cL 5 (o_istore 6 2)))) (cN 7 (cN 6 (cL 6 (o_aload 7 0)) (cL 7 (o_iload 8 2))) (cN 8 (cL 8 (o_push 9 (-1))) (cN 9 (cL 9 (o_icmp_ne 16 12)) (cL 12 (o_push 13 1)))))) (cN 20 (cN 16 (cN 13 (cL 13 (o_goto 17)) (cL 16 (o_push 17 0))) (cN 17 (cL 17 (o_callV 20 8 1 tX10_throwsAt 0 0)) (cL 20 (o_if_eq 25 23)))) (cN 24 (cN 23 (cL 23 (o_push 24 0)) (cL 24 (o_iret))) (cN 25 (cL 25 (o_aload 26 0)) (cN 26 (cL 26 (o_getf 29 8 0)) (cL 29 (o_push 31 17))))))) (cN 43 (cN 36 (cN 32 (cN 31 (cL 31 (o_iald 32)) (cL 32 (o_if_eq 37 35))) (cN 35 (cL 35 (o_push 36 1)) (cL 36 (o_iret)))) (cN 38 (cN 37 (cL 37 (o_aload 38 0)) (cL 38 (o_iload 39 2))) (cN 39 (cL 39 (o_push 40 1)) (cN 40 (cL 40 (o_callV 43 8 2 tX10_of 0 0)) (cL 43 (o_aload 44 0)))))) (cN 50 (cN 47 (cN 44 (cL 44 (o_getf 47 8 0)) (cL 47 (o_push 49 16))) (cN 49 (cL 49 (o_iald 50)) (cL 50 (o_icmp_eq 55 53)))) (cN 54 (cN 53 (cL 53 (o_push 54 2)) (cL 54 (o_iret))) (cN 55 (cL 55 (o_aload 56 0)) (cN 56 (cL 56 (o_getf 59 8 0)) (cL 59 (o_push 61 19)))))))) (cN 91 (cN 73 (cN 66 (cN 62 (cN 61 (cL 61 (o_iald 62)) (cL 62 (o_if_ne 92 65))) (cN 65 (cL 65 (o_aload 66 0)) (cL 66 (o_aload 67 0)))) (cN 68 (cN 67 (cL 67 (o_aload 68 0)) (cL 68 (o_getf 71 8 0))) (cN 71 (cL 71 (o_push 72 2)) (cN 72 (cL 72 (o_iald 73)) (cL 73 (o_callV 76 8 1 tX10_targetBy 0 0)))))) (cN 81 (cN 77 (cN 76 (cL 76 (o_push 77 1)) (cL 77 (o_callV 80 8 2 tX10_of 0 0))) (cN 80 (cL 80 (o_aload 81 0)) (cL 81 (o_getf 84 8 0)))) (cN 86 (cN 84 (cL 84 (o_push 86 16)) (cL 86 (o_iald 87))) (cN 87 (cL 87 (o_icmp_eq 92 90)) (cN 90 (cL 90 (o_push 91 3)) (cL 91 (o_iret))))))) (cN 105 (cN 95 (cN 93 (cN 92 (cL 92 (o_aload 93 0)) (cL 93 (o_iload 94 2))) (cN 94 (cL 94 (o_push 95 2)) (cL 95 (o_callV 98 8 2 tX10_of 0 0)))) (cN 99 (cN 98 (cL 98 (o_aload 99 0)) (cL 99 (o_getf 102 8 0))) (cN 102 (cL 102 (o_push 104 6)) (cN 104 (cL 104 (o_iald 105)) (cL 105 (o_aload 106 0)))))) (cN 111 (cN 109 (cN 106 (cL 106 (o_getf 109 8 0)) (cL 109 (o_push 110 1))) (cN 110 (cL 110 (o_iald 111)) (cL 111 (o_irem 112)))) (cN 115 (cN 112 (cL 112 (o_icmp_ne 119 115)) (cL 115 (o_push 116 0))) (cN 116 (cL 116 (o_goto 120)) (cN 119 (cL 119 (o_push 120 4)) (cL 120 (o_iret))))))))
theorem sX10_reason : ∀ pc, Snd tX10_reason G1 pc (kX10_reason pc) := s_N (s_N (s_N (s_N (s_N (s_N (s_L (s_aload_n dX10_reason_0 rfl)) (s_L (s_iload_n dX10_reason_1 rfl))) (s_N (s_L (s_callV (d' := tX10_placeOf) (mc := 0) (ms := 0) ok_8 cc_X10_reason_X10_placeOf qw_1042 qw_1044 qw_33 dX10_reason_2)) (s_L (s_istore_n dX10_reason_5 rfl (by decide))))) (s_N (s_N (s_L (s_aload_n dX10_reason_6 rfl)) (s_L (s_iload_n dX10_reason_7 rfl))) (s_N (s_L (s_iconst dX10_reason_8 (by decide +kernel))) (s_N (s_L (s_o_icmp_ne dX10_reason_9 (by decide))) (s_L (s_iconst dX10_reason_12 (by decide +kernel))))))) (s_N (s_N (s_N (s_L (s_o_goto dX10_reason_13 (by decide))) (s_L (s_iconst dX10_reason_16 (by decide +kernel)))) (s_N (s_L (s_callV (d' := tX10_throwsAt) (mc := 0) (ms := 0) ok_8 cc_X10_reason_X10_throwsAt qw_1026 qw_1028 qw_31 dX10_reason_17)) (s_L (s_o_if_eq dX10_reason_20 (by decide))))) (s_N (s_N (s_L (s_iconst dX10_reason_23 (by decide +kernel))) (s_L (s_iret rfl dX10_reason_24))) (s_N (s_L (s_aload_n dX10_reason_25 rfl)) (s_N (s_L (s_getf ok_8 (k := 0) (by decide) dX10_reason_26 qw_972)) (s_L (s_bipush dX10_reason_29 (by decide +kernel)))))))) (s_N (s_N (s_N (s_N (s_L (s_iald dX10_reason_31)) (s_L (s_o_if_eq dX10_reason_32 (by decide)))) (s_N (s_L (s_iconst dX10_reason_35 (by decide +kernel))) (s_L (s_iret rfl dX10_reason_36)))) (s_N (s_N (s_L (s_aload_n dX10_reason_37 rfl)) (s_L (s_iload_n dX10_reason_38 rfl))) (s_N (s_L (s_iconst dX10_reason_39 (by decide +kernel))) (s_N (s_L (s_callV (d' := tX10_of) (mc := 0) (ms := 0) ok_8 cc_X10_reason_X10_of qw_1046 qw_1048 qw_34 dX10_reason_40)) (s_L (s_aload_n dX10_reason_43 rfl)))))) (s_N (s_N (s_N (s_L (s_getf ok_8 (k := 0) (by decide) dX10_reason_44 qw_972)) (s_L (s_bipush dX10_reason_47 (by decide +kernel)))) (s_N (s_L (s_iald dX10_reason_49)) (s_L (s_o_icmp_eq dX10_reason_50 (by decide))))) (s_N (s_N (s_L (s_iconst dX10_reason_53 (by decide +kernel))) (s_L (s_iret rfl dX10_reason_54))) (s_N (s_L (s_aload_n dX10_reason_55 rfl)) (s_N (s_L (s_getf ok_8 (k := 0) (by decide) dX10_reason_56 qw_972)) (s_L (s_bipush dX10_reason_59 (by decide +kernel))))))))) (s_N (s_N (s_N (s_N (s_N (s_L (s_iald dX10_reason_61)) (s_L (s_o_if_ne dX10_reason_62 (by decide)))) (s_N (s_L (s_aload_n dX10_reason_65 rfl)) (s_L (s_aload_n dX10_reason_66 rfl)))) (s_N (s_N (s_L (s_aload_n dX10_reason_67 rfl)) (s_L (s_getf ok_8 (k := 0) (by decide) dX10_reason_68 qw_972))) (s_N (s_L (s_iconst dX10_reason_71 (by decide +kernel))) (s_N (s_L (s_iald dX10_reason_72)) (s_L (s_callV (d' := tX10_targetBy) (mc := 0) (ms := 0) ok_8 cc_X10_reason_X10_targetBy qw_1066 qw_1068 qw_37 dX10_reason_73)))))) (s_N (s_N (s_N (s_L (s_iconst dX10_reason_76 (by decide +kernel))) (s_L (s_callV (d' := tX10_of) (mc := 0) (ms := 0) ok_8 cc_X10_reason_X10_of qw_1046 qw_1048 qw_34 dX10_reason_77))) (s_N (s_L (s_aload_n dX10_reason_80 rfl)) (s_L (s_getf ok_8 (k := 0) (by decide) dX10_reason_81 qw_972)))) (s_N (s_N (s_L (s_bipush dX10_reason_84 (by decide +kernel))) (s_L (s_iald dX10_reason_86))) (s_N (s_L (s_o_icmp_eq dX10_reason_87 (by decide))) (s_N (s_L (s_iconst dX10_reason_90 (by decide +kernel))) (s_L (s_iret rfl dX10_reason_91))))))) (s_N (s_N (s_N (s_N (s_L (s_aload_n dX10_reason_92 rfl)) (s_L (s_iload_n dX10_reason_93 rfl))) (s_N (s_L (s_iconst dX10_reason_94 (by decide +kernel))) (s_L (s_callV (d' := tX10_of) (mc := 0) (ms := 0) ok_8 cc_X10_reason_X10_of qw_1046 qw_1048 qw_34 dX10_reason_95)))) (s_N (s_N (s_L (s_aload_n dX10_reason_98 rfl)) (s_L (s_getf ok_8 (k := 0) (by decide) dX10_reason_99 qw_972))) (s_N (s_L (s_bipush dX10_reason_102 (by decide +kernel))) (s_N (s_L (s_iald dX10_reason_104)) (s_L (s_aload_n dX10_reason_105 rfl)))))) (s_N (s_N (s_N (s_L (s_getf ok_8 (k := 0) (by decide) dX10_reason_106 qw_972)) (s_L (s_iconst dX10_reason_109 (by decide +kernel)))) (s_N (s_L (s_iald dX10_reason_110)) (s_L (s_o_irem dX10_reason_111)))) (s_N (s_N (s_L (s_o_icmp_ne dX10_reason_112 (by decide))) (s_L (s_iconst dX10_reason_115 (by decide +kernel)))) (s_N (s_L (s_o_goto dX10_reason_116 (by decide))) (s_N (s_L (s_iconst dX10_reason_119 (by decide +kernel))) (s_L (s_iret rfl dX10_reason_120))))))))
/-! PlateArmModel.type -/
theorem dX10_type_0 : decode cX10_type 0 = .ok (.aload_n 0, 1) := by decide +kernel
theorem dX10_type_1 : decode cX10_type 1 = .ok (.iload_n 1, 1) := by decide +kernel
theorem dX10_type_2 : decode cX10_type 2 = .ok (.iconst 0, 1) := by decide +kernel
theorem dX10_type_3 : decode cX10_type 3 = .ok (.bipush 127, 2) := by decide +kernel
theorem dX10_type_5 : decode cX10_type 5 = .ok (.invokestatic 90, 3) := by decide +kernel
theorem dX10_type_8 : decode cX10_type 8 = .ok (.ifCond .ne 7, 3) := by decide +kernel
theorem dX10_type_11 : decode cX10_type 11 = .ok (.iconst 1, 1) := by decide +kernel
theorem dX10_type_12 : decode cX10_type 12 = .ok (.goto 18, 3) := by decide +kernel
theorem dX10_type_15 : decode cX10_type 15 = .ok (.aload_n 0, 1) := by decide +kernel
theorem dX10_type_16 : decode cX10_type 16 = .ok (.getfield 125, 3) := by decide +kernel
theorem dX10_type_19 : decode cX10_type 19 = .ok (.sipush 150, 3) := by decide +kernel
theorem dX10_type_22 : decode cX10_type 22 = .ok (.if_icmp .ne 7, 3) := by decide +kernel
theorem dX10_type_25 : decode cX10_type 25 = .ok (.iconst 2, 1) := by decide +kernel
theorem dX10_type_26 : decode cX10_type 26 = .ok (.goto 4, 3) := by decide +kernel
theorem dX10_type_29 : decode cX10_type 29 = .ok (.iconst 0, 1) := by decide +kernel
theorem dX10_type_30 : decode cX10_type 30 = .ok (.invokevirtual 94, 3) := by decide +kernel
theorem dX10_type_33 : decode cX10_type 33 = .ok (.ifCond .eq 5, 3) := by decide +kernel
theorem dX10_type_36 : decode cX10_type 36 = .ok (.iconst 0, 1) := by decide +kernel
theorem dX10_type_37 : decode cX10_type 37 = .ok (.ireturn, 1) := by decide +kernel
theorem dX10_type_38 : decode cX10_type 38 = .ok (.aload_n 0, 1) := by decide +kernel
theorem dX10_type_39 : decode cX10_type 39 = .ok (.getfield 19, 3) := by decide +kernel
theorem dX10_type_42 : decode cX10_type 42 = .ok (.aload_n 0, 1) := by decide +kernel
theorem dX10_type_43 : decode cX10_type 43 = .ok (.getfield 125, 3) := by decide +kernel
theorem dX10_type_46 : decode cX10_type 46 = .ok (.iload_n 1, 1) := by decide +kernel
theorem dX10_type_47 : decode cX10_type 47 = .ok (.iastore, 1) := by decide +kernel
theorem dX10_type_48 : decode cX10_type 48 = .ok (.aload_n 0, 1) := by decide +kernel
theorem dX10_type_49 : decode cX10_type 49 = .ok (.dup, 1) := by decide +kernel
theorem dX10_type_50 : decode cX10_type 50 = .ok (.getfield 125, 3) := by decide +kernel
theorem dX10_type_53 : decode cX10_type 53 = .ok (.iconst 1, 1) := by decide +kernel
theorem dX10_type_54 : decode cX10_type 54 = .ok (.iadd, 1) := by decide +kernel
theorem dX10_type_55 : decode cX10_type 55 = .ok (.putfield 125, 3) := by decide +kernel
theorem dX10_type_58 : decode cX10_type 58 = .ok (.aload_n 0, 1) := by decide +kernel
theorem dX10_type_59 : decode cX10_type 59 = .ok (.getfield 125, 3) := by decide +kernel
theorem dX10_type_62 : decode cX10_type 62 = .ok (.ireturn, 1) := by decide +kernel
theorem cc_X10_type_X10_in : CallC tX10_type tX10_in 3 := ⟨by decide +kernel, by decide +kernel, by decide +kernel, by decide, by decide, qw_80, qw_1025⟩
theorem cc_X10_type_X10_throwsAt : CallC tX10_type tX10_throwsAt 1 := ⟨by decide +kernel, by decide +kernel, by decide +kernel, by decide, by decide, qw_80, qw_1029⟩
def kX10_type : Nat → WOp := cN 33 (cN 12 (cN 3 (cN 1 (cN 0 (cL 0 (o_aload 1 0)) (cL 1 (o_iload 2 1))) (cN 2 (cL 2 (o_push 3 0)) (cL 3 (o_push 5 127)))) (cN 8 (cN 5 (cL 5 (o_callS 8 3 tX10_in 0 0)) (cL 8 (o_if_ne 15 11))) (cN 11 (cL 11 (o_push 12 1)) (cL 12 (o_goto 30))))) (cN 22 (cN 16 (cN 15 (cL 15 (o_aload 16 0)) (cL 16 (o_getf 19 8 6))) (cN 19 (cL 19 (o_push 22 150)) (cL 22 (o_icmp_ne 29 25)))) (cN 26 (cN 25 (cL 25 (o_push 26 2)) (cL 26 (o_goto 30))) (cN 29 (cL 29 (o_push 30 0)) (cN 30 (cL 30 (o_callV 33 8 1 tX10_throwsAt 0 0)) (cL 33 (o_if_eq 38 36))))))) (cN 47 (cN 39 (cN 37 (cN 36 (cL 36 (o_push 37 0)) (cL 37 (o_iret))) (cN 38 (cL 38 (o_aload 39 0)) (cL 39 (o_getf 42 8 5)))) (cN 43 (cN 42 (cL 42 (o_aload 43 0)) (cL 43 (o_getf 46 8 6))) (cN 46 (cL 46 (o_iload 47 1)) (cL 47 (o_iast 48))))) (cN 53 (cN 49 (cN 48 (cL 48 (o_aload 49 0)) (cL 49 (o_dup 50))) (cN 50 (cL 50 (o_getf 53 8 6)) (cL 53 (o_push 54 1)))) (cN 55 (cN 54 (cL 54 (o_iadd 55)) (cL 55 (o_puti 58 8 6))) (cN 58 (cL 58 (o_aload 59 0)) (cN 59 (cL 59 (o_getf 62 8 6)) (cL 62 (o_iret)))))))
theorem sX10_type : ∀ pc, Snd tX10_type G1 pc (kX10_type pc) := s_N (s_N (s_N (s_N (s_N (s_L (s_aload_n dX10_type_0 rfl)) (s_L (s_iload_n dX10_type_1 rfl))) (s_N (s_L (s_iconst dX10_type_2 (by decide +kernel))) (s_L (s_bipush dX10_type_3 (by decide +kernel))))) (s_N (s_N (s_L (s_callS (d' := tX10_in) (mc := 0) (ms := 0) cc_X10_type_X10_in qw_1023 qw_1024 dX10_type_5)) (s_L (s_o_if_ne dX10_type_8 (by decide)))) (s_N (s_L (s_iconst dX10_type_11 (by decide +kernel))) (s_L (s_o_goto dX10_type_12 (by decide)))))) (s_N (s_N (s_N (s_L (s_aload_n dX10_type_15 rfl)) (s_L (s_getf ok_8 (k := 6) (by decide) dX10_type_16 qw_978))) (s_N (s_L (s_sipush dX10_type_19 (by decide +kernel))) (s_L (s_o_icmp_ne dX10_type_22 (by decide))))) (s_N (s_N (s_L (s_iconst dX10_type_25 (by decide +kernel))) (s_L (s_o_goto dX10_type_26 (by decide)))) (s_N (s_L (s_iconst dX10_type_29 (by decide +kernel))) (s_N (s_L (s_callV (d' := tX10_throwsAt) (mc := 0) (ms := 0) ok_8 cc_X10_type_X10_throwsAt qw_1026 qw_1028 qw_31 dX10_type_30)) (s_L (s_o_if_eq dX10_type_33 (by decide)))))))) (s_N (s_N (s_N (s_N (s_L (s_iconst dX10_type_36 (by decide +kernel))) (s_L (s_iret rfl dX10_type_37))) (s_N (s_L (s_aload_n dX10_type_38 rfl)) (s_L (s_getf ok_8 (k := 5) (by decide) dX10_type_39 qw_977)))) (s_N (s_N (s_L (s_aload_n dX10_type_42 rfl)) (s_L (s_getf ok_8 (k := 6) (by decide) dX10_type_43 qw_978))) (s_N (s_L (s_iload_n dX10_type_46 rfl)) (s_L (s_iast dX10_type_47))))) (s_N (s_N (s_N (s_L (s_aload_n dX10_type_48 rfl)) (s_L (s_o_dup dX10_type_49))) (s_N (s_L (s_getf ok_8 (k := 6) (by decide) dX10_type_50 qw_978)) (s_L (s_iconst dX10_type_53 (by decide +kernel))))) (s_N (s_N (s_L (s_o_iadd dX10_type_54)) (s_L (s_puti ok_8 (k := 6) (by decide) rfl (Or.inl rfl) dX10_type_55 qw_978))) (s_N (s_L (s_aload_n dX10_type_58 rfl)) (s_N (s_L (s_getf ok_8 (k := 6) (by decide) dX10_type_59 qw_978)) (s_L (s_iret rfl dX10_type_62)))))))
/-! PlateArmModel.clearCommands -/
theorem dX10_clearCommands_0 : decode cX10_clearCommands 0 = .ok (.aload_n 0, 1) := by decide +kernel
theorem dX10_clearCommands_1 : decode cX10_clearCommands 1 = .ok (.iconst 0, 1) := by decide +kernel
theorem dX10_clearCommands_2 : decode cX10_clearCommands 2 = .ok (.putfield 29, 3) := by decide +kernel
theorem dX10_clearCommands_5 : decode cX10_clearCommands 5 = .ok (.aload_n 0, 1) := by decide +kernel
theorem dX10_clearCommands_6 : decode cX10_clearCommands 6 = .ok (.getfield 125, 3) := by decide +kernel
theorem dX10_clearCommands_9 : decode cX10_clearCommands 9 = .ok (.istore_n 1, 1) := by decide +kernel
theorem dX10_clearCommands_10 : decode cX10_clearCommands 10 = .ok (.aload_n 0, 1) := by decide +kernel
theorem dX10_clearCommands_11 : decode cX10_clearCommands 11 = .ok (.iconst 0, 1) := by decide +kernel
theorem dX10_clearCommands_12 : decode cX10_clearCommands 12 = .ok (.putfield 125, 3) := by decide +kernel
theorem dX10_clearCommands_15 : decode cX10_clearCommands 15 = .ok (.iload_n 1, 1) := by decide +kernel
theorem dX10_clearCommands_16 : decode cX10_clearCommands 16 = .ok (.ireturn, 1) := by decide +kernel
def kX10_clearCommands : Nat → WOp := cN 6 (cN 1 (cN 0 (cL 0 (o_aload 1 0)) (cL 1 (o_push 2 0))) (cN 2 (cL 2 (o_puti 5 8 7)) (cN 5 (cL 5 (o_aload 6 0)) (cL 6 (o_getf 9 8 6))))) (cN 11 (cN 9 (cL 9 (o_istore 10 1)) (cN 10 (cL 10 (o_aload 11 0)) (cL 11 (o_push 12 0)))) (cN 12 (cL 12 (o_puti 15 8 6)) (cN 15 (cL 15 (o_iload 16 1)) (cL 16 (o_iret)))))
theorem sX10_clearCommands : ∀ pc, Snd tX10_clearCommands G1 pc (kX10_clearCommands pc) := s_N (s_N (s_N (s_L (s_aload_n dX10_clearCommands_0 rfl)) (s_L (s_iconst dX10_clearCommands_1 (by decide +kernel)))) (s_N (s_L (s_puti ok_8 (k := 7) (by decide) rfl (Or.inl rfl) dX10_clearCommands_2 qw_979)) (s_N (s_L (s_aload_n dX10_clearCommands_5 rfl)) (s_L (s_getf ok_8 (k := 6) (by decide) dX10_clearCommands_6 qw_978))))) (s_N (s_N (s_L (s_istore_n dX10_clearCommands_9 rfl (by decide))) (s_N (s_L (s_aload_n dX10_clearCommands_10 rfl)) (s_L (s_iconst dX10_clearCommands_11 (by decide +kernel))))) (s_N (s_L (s_puti ok_8 (k := 6) (by decide) rfl (Or.inl rfl) dX10_clearCommands_12 qw_978)) (s_N (s_L (s_iload_n dX10_clearCommands_15 rfl)) (s_L (s_iret rfl dX10_clearCommands_16)))))
/-! PlateArmModel.isAt -/
theorem dX10_isAt_0 : decode cX10_isAt 0 = .ok (.aload_n 0, 1) := by decide +kernel
theorem dX10_isAt_1 : decode cX10_isAt 1 = .ok (.getfield 146, 3) := by decide +kernel
theorem dX10_isAt_4 : decode cX10_isAt 4 = .ok (.aload_n 0, 1) := by decide +kernel
theorem dX10_isAt_5 : decode cX10_isAt 5 = .ok (.getfield 125, 3) := by decide +kernel
theorem dX10_isAt_8 : decode cX10_isAt 8 = .ok (.if_icmp .ge 24, 3) := by decide +kernel
theorem dX10_isAt_11 : decode cX10_isAt 11 = .ok (.aload_n 0, 1) := by decide +kernel
theorem dX10_isAt_12 : decode cX10_isAt 12 = .ok (.getfield 19, 3) := by decide +kernel
theorem dX10_isAt_15 : decode cX10_isAt 15 = .ok (.aload_n 0, 1) := by decide +kernel
theorem dX10_isAt_16 : decode cX10_isAt 16 = .ok (.getfield 146, 3) := by decide +kernel
theorem dX10_isAt_19 : decode cX10_isAt 19 = .ok (.iaload, 1) := by decide +kernel
theorem dX10_isAt_20 : decode cX10_isAt 20 = .ok (.iload_n 1, 1) := by decide +kernel
theorem dX10_isAt_21 : decode cX10_isAt 21 = .ok (.iload_n 2, 1) := by decide +kernel
theorem dX10_isAt_22 : decode cX10_isAt 22 = .ok (.invokestatic 90, 3) := by decide +kernel
theorem dX10_isAt_25 : decode cX10_isAt 25 = .ok (.ifCond .eq 7, 3) := by decide +kernel
theorem dX10_isAt_28 : decode cX10_isAt 28 = .ok (.iconst 1, 1) := by decide +kernel
theorem dX10_isAt_29 : decode cX10_isAt 29 = .ok (.goto 4, 3) := by decide +kernel
theorem dX10_isAt_32 : decode cX10_isAt 32 = .ok (.iconst 0, 1) := by decide +kernel
theorem dX10_isAt_33 : decode cX10_isAt 33 = .ok (.ireturn, 1) := by decide +kernel
theorem cc_X10_isAt_X10_in : CallC tX10_isAt tX10_in 3 := ⟨by decide +kernel, by decide +kernel, by decide +kernel, by decide, by decide, qw_80, qw_1025⟩
def kX10_isAt : Nat → WOp := cN 16 (cN 5 (cN 1 (cN 0 (cL 0 (o_aload 1 0)) (cL 1 (o_getf 4 8 10))) (cN 4 (cL 4 (o_aload 5 0)) (cL 5 (o_getf 8 8 6)))) (cN 11 (cN 8 (cL 8 (o_icmp_ge 32 11)) (cL 11 (o_aload 12 0))) (cN 12 (cL 12 (o_getf 15 8 5)) (cN 15 (cL 15 (o_aload 16 0)) (cL 16 (o_getf 19 8 10)))))) (cN 22 (cN 20 (cN 19 (cL 19 (o_iald 20)) (cL 20 (o_iload 21 1))) (cN 21 (cL 21 (o_iload 22 2)) (cL 22 (o_callS 25 3 tX10_in 0 0)))) (cN 28 (cN 25 (cL 25 (o_if_eq 32 28)) (cL 28 (o_push 29 1))) (cN 29 (cL 29 (o_goto 33)) (cN 32 (cL 32 (o_push 33 0)) (cL 33 (o_zret))))))
theorem sX10_isAt : ∀ pc, Snd tX10_isAt G1 pc (kX10_isAt pc) := s_N (s_N (s_N (s_N (s_L (s_aload_n dX10_isAt_0 rfl)) (s_L (s_getf ok_8 (k := 10) (by decide) dX10_isAt_1 qw_982))) (s_N (s_L (s_aload_n dX10_isAt_4 rfl)) (s_L (s_getf ok_8 (k := 6) (by decide) dX10_isAt_5 qw_978)))) (s_N (s_N (s_L (s_o_icmp_ge dX10_isAt_8 (by decide))) (s_L (s_aload_n dX10_isAt_11 rfl))) (s_N (s_L (s_getf ok_8 (k := 5) (by decide) dX10_isAt_12 qw_977)) (s_N (s_L (s_aload_n dX10_isAt_15 rfl)) (s_L (s_getf ok_8 (k := 10) (by decide) dX10_isAt_16 qw_982)))))) (s_N (s_N (s_N (s_L (s_iald dX10_isAt_19)) (s_L (s_iload_n dX10_isAt_20 rfl))) (s_N (s_L (s_iload_n dX10_isAt_21 rfl)) (s_L (s_callS (d' := tX10_in) (mc := 0) (ms := 0) cc_X10_isAt_X10_in qw_1023 qw_1024 dX10_isAt_22)))) (s_N (s_N (s_L (s_o_if_eq dX10_isAt_25 (by decide))) (s_L (s_iconst dX10_isAt_28 (by decide +kernel)))) (s_N (s_L (s_o_goto dX10_isAt_29 (by decide))) (s_N (s_L (s_iconst dX10_isAt_32 (by decide +kernel))) (s_L (s_zret rfl dX10_isAt_33))))))
/-! PlateArmModel.skips -/
theorem dX10_skips_0 : decode cX10_skips 0 = .ok (.aload_n 0, 1) := by decide +kernel
theorem dX10_skips_1 : decode cX10_skips 1 = .ok (.bipush 32, 2) := by decide +kernel
theorem dX10_skips_3 : decode cX10_skips 3 = .ok (.bipush 32, 2) := by decide +kernel
theorem dX10_skips_5 : decode cX10_skips 5 = .ok (.invokevirtual 149, 3) := by decide +kernel
theorem dX10_skips_8 : decode cX10_skips 8 = .ok (.ifCond .eq 16, 3) := by decide +kernel
theorem dX10_skips_11 : decode cX10_skips 11 = .ok (.aload_n 0, 1) := by decide +kernel
theorem dX10_skips_12 : decode cX10_skips 12 = .ok (.dup, 1) := by decide +kernel
theorem dX10_skips_13 : decode cX10_skips 13 = .ok (.getfield 146, 3) := by decide +kernel
theorem dX10_skips_16 : decode cX10_skips 16 = .ok (.iconst 1, 1) := by decide +kernel
theorem dX10_skips_17 : decode cX10_skips 17 = .ok (.iadd, 1) := by decide +kernel
theorem dX10_skips_18 : decode cX10_skips 18 = .ok (.putfield 146, 3) := by decide +kernel
theorem dX10_skips_21 : decode cX10_skips 21 = .ok (.goto (-21), 3) := by decide +kernel
theorem dX10_skips_24 : decode cX10_skips 24 = .ok (.return_, 1) := by decide +kernel
theorem cc_X10_skips_X10_isAt : CallC tX10_skips tX10_isAt 2 := ⟨by decide +kernel, by decide +kernel, by decide +kernel, by decide, by decide, qw_80, qw_1236⟩
def kX10_skips : Nat → WOp := cN 11 (cN 3 (cN 0 (cL 0 (o_aload 1 0)) (cN 1 (cL 1 (o_push 3 32)) (cL 3 (o_push 5 32)))) (cN 5 (cL 5 (o_callV 8 8 2 tX10_isAt 0 0)) (cN 8 (cL 8 (o_if_eq 24 11)) (cL 11 (o_aload 12 0))))) (cN 16 (cN 12 (cL 12 (o_dup 13)) (cN 13 (cL 13 (o_getf 16 8 10)) (cL 16 (o_push 17 1)))) (cN 18 (cN 17 (cL 17 (o_iadd 18)) (cL 18 (o_puti 21 8 10))) (cN 21 (cL 21 (o_goto 0)) (cL 24 (o_vret)))))
theorem sX10_skips : ∀ pc, Snd tX10_skips G1 pc (kX10_skips pc) := s_N (s_N (s_N (s_L (s_aload_n dX10_skips_0 rfl)) (s_N (s_L (s_bipush dX10_skips_1 (by decide +kernel))) (s_L (s_bipush dX10_skips_3 (by decide +kernel))))) (s_N (s_L (s_callV (d' := tX10_isAt) (mc := 0) (ms := 0) ok_8 cc_X10_skips_X10_isAt qw_1233 qw_1235 qw_62 dX10_skips_5)) (s_N (s_L (s_o_if_eq dX10_skips_8 (by decide))) (s_L (s_aload_n dX10_skips_11 rfl))))) (s_N (s_N (s_L (s_o_dup dX10_skips_12)) (s_N (s_L (s_getf ok_8 (k := 10) (by decide) dX10_skips_13 qw_982)) (s_L (s_iconst dX10_skips_16 (by decide +kernel))))) (s_N (s_N (s_L (s_o_iadd dX10_skips_17)) (s_L (s_puti ok_8 (k := 10) (by decide) rfl (Or.inl rfl) dX10_skips_18 qw_982))) (s_N (s_L (s_o_goto dX10_skips_21 (by decide))) (s_L (s_vret rfl dX10_skips_24)))))
/-! PlateArmModel.isWord -/
theorem dX10_isWord_0 : decode cX10_isWord 0 = .ok (.aload_n 0, 1) := by decide +kernel
theorem dX10_isWord_1 : decode cX10_isWord 1 = .ok (.getfield 146, 3) := by decide +kernel
theorem dX10_isWord_4 : decode cX10_isWord 4 = .ok (.iload_n 1, 1) := by decide +kernel
theorem dX10_isWord_5 : decode cX10_isWord 5 = .ok (.isub, 1) := by decide +kernel
theorem dX10_isWord_6 : decode cX10_isWord 6 = .ok (.istore 8, 2) := by decide +kernel
theorem dX10_isWord_8 : decode cX10_isWord 8 = .ok (.iload 8, 2) := by decide +kernel
theorem dX10_isWord_10 : decode cX10_isWord 10 = .ok (.iload 5, 2) := by decide +kernel
theorem dX10_isWord_12 : decode cX10_isWord 12 = .ok (.ifCond .ne 7, 3) := by decide +kernel
theorem dX10_isWord_15 : decode cX10_isWord 15 = .ok (.iconst 3, 1) := by decide +kernel
theorem dX10_isWord_16 : decode cX10_isWord 16 = .ok (.goto 23, 3) := by decide +kernel
theorem dX10_isWord_19 : decode cX10_isWord 19 = .ok (.iload 6, 2) := by decide +kernel
theorem dX10_isWord_21 : decode cX10_isWord 21 = .ok (.ifCond .ne 7, 3) := by decide +kernel
theorem dX10_isWord_24 : decode cX10_isWord 24 = .ok (.iconst 4, 1) := by decide +kernel
theorem dX10_isWord_25 : decode cX10_isWord 25 = .ok (.goto 14, 3) := by decide +kernel
theorem dX10_isWord_28 : decode cX10_isWord 28 = .ok (.iload 7, 2) := by decide +kernel
theorem dX10_isWord_30 : decode cX10_isWord 30 = .ok (.ifCond .ne 7, 3) := by decide +kernel
theorem dX10_isWord_33 : decode cX10_isWord 33 = .ok (.iconst 5, 1) := by decide +kernel
theorem dX10_isWord_34 : decode cX10_isWord 34 = .ok (.goto 5, 3) := by decide +kernel
theorem dX10_isWord_37 : decode cX10_isWord 37 = .ok (.bipush 6, 2) := by decide +kernel
theorem dX10_isWord_39 : decode cX10_isWord 39 = .ok (.if_icmp .ne 42, 3) := by decide +kernel
theorem dX10_isWord_42 : decode cX10_isWord 42 = .ok (.aload_n 0, 1) := by decide +kernel
theorem dX10_isWord_43 : decode cX10_isWord 43 = .ok (.getfield 19, 3) := by decide +kernel
theorem dX10_isWord_46 : decode cX10_isWord 46 = .ok (.iload_n 1, 1) := by decide +kernel
theorem dX10_isWord_47 : decode cX10_isWord 47 = .ok (.iaload, 1) := by decide +kernel
theorem dX10_isWord_48 : decode cX10_isWord 48 = .ok (.iload_n 2, 1) := by decide +kernel
theorem dX10_isWord_49 : decode cX10_isWord 49 = .ok (.if_icmp .ne 32, 3) := by decide +kernel
theorem dX10_isWord_52 : decode cX10_isWord 52 = .ok (.aload_n 0, 1) := by decide +kernel
theorem dX10_isWord_53 : decode cX10_isWord 53 = .ok (.getfield 19, 3) := by decide +kernel
theorem dX10_isWord_56 : decode cX10_isWord 56 = .ok (.iload_n 1, 1) := by decide +kernel
theorem dX10_isWord_57 : decode cX10_isWord 57 = .ok (.iconst 1, 1) := by decide +kernel
theorem dX10_isWord_58 : decode cX10_isWord 58 = .ok (.iadd, 1) := by decide +kernel
theorem dX10_isWord_59 : decode cX10_isWord 59 = .ok (.iaload, 1) := by decide +kernel
theorem dX10_isWord_60 : decode cX10_isWord 60 = .ok (.iload_n 3, 1) := by decide +kernel
theorem dX10_isWord_61 : decode cX10_isWord 61 = .ok (.if_icmp .ne 20, 3) := by decide +kernel
theorem dX10_isWord_64 : decode cX10_isWord 64 = .ok (.aload_n 0, 1) := by decide +kernel
theorem dX10_isWord_65 : decode cX10_isWord 65 = .ok (.getfield 19, 3) := by decide +kernel
theorem dX10_isWord_68 : decode cX10_isWord 68 = .ok (.iload_n 1, 1) := by decide +kernel
theorem dX10_isWord_69 : decode cX10_isWord 69 = .ok (.iconst 2, 1) := by decide +kernel
theorem dX10_isWord_70 : decode cX10_isWord 70 = .ok (.iadd, 1) := by decide +kernel
theorem dX10_isWord_71 : decode cX10_isWord 71 = .ok (.iaload, 1) := by decide +kernel
theorem dX10_isWord_72 : decode cX10_isWord 72 = .ok (.iload 4, 2) := by decide +kernel
theorem dX10_isWord_74 : decode cX10_isWord 74 = .ok (.if_icmp .ne 7, 3) := by decide +kernel
theorem dX10_isWord_77 : decode cX10_isWord 77 = .ok (.iconst 1, 1) := by decide +kernel
theorem dX10_isWord_78 : decode cX10_isWord 78 = .ok (.goto 4, 3) := by decide +kernel
theorem dX10_isWord_81 : decode cX10_isWord 81 = .ok (.iconst 0, 1) := by decide +kernel
theorem dX10_isWord_82 : decode cX10_isWord 82 = .ok (.istore 9, 2) := by decide +kernel
theorem dX10_isWord_84 : decode cX10_isWord 84 = .ok (.iload 9, 2) := by decide +kernel
theorem dX10_isWord_86 : decode cX10_isWord 86 = .ok (.ifCond .eq 65, 3) := by decide +kernel
theorem dX10_isWord_89 : decode cX10_isWord 89 = .ok (.iload 8, 2) := by decide +kernel
theorem dX10_isWord_91 : decode cX10_isWord 91 = .ok (.iconst 4, 1) := by decide +kernel
theorem dX10_isWord_92 : decode cX10_isWord 92 = .ok (.if_icmp .lt 16, 3) := by decide +kernel
theorem dX10_isWord_95 : decode cX10_isWord 95 = .ok (.aload_n 0, 1) := by decide +kernel
theorem dX10_isWord_96 : decode cX10_isWord 96 = .ok (.getfield 19, 3) := by decide +kernel
theorem dX10_isWord_99 : decode cX10_isWord 99 = .ok (.iload_n 1, 1) := by decide +kernel
theorem dX10_isWord_100 : decode cX10_isWord 100 = .ok (.iconst 3, 1) := by decide +kernel
theorem dX10_isWord_101 : decode cX10_isWord 101 = .ok (.iadd, 1) := by decide +kernel
theorem dX10_isWord_102 : decode cX10_isWord 102 = .ok (.iaload, 1) := by decide +kernel
theorem dX10_isWord_103 : decode cX10_isWord 103 = .ok (.iload 5, 2) := by decide +kernel
theorem dX10_isWord_105 : decode cX10_isWord 105 = .ok (.if_icmp .ne 46, 3) := by decide +kernel
theorem dX10_isWord_108 : decode cX10_isWord 108 = .ok (.iload 8, 2) := by decide +kernel
theorem dX10_isWord_110 : decode cX10_isWord 110 = .ok (.iconst 5, 1) := by decide +kernel
theorem dX10_isWord_111 : decode cX10_isWord 111 = .ok (.if_icmp .lt 16, 3) := by decide +kernel
theorem dX10_isWord_114 : decode cX10_isWord 114 = .ok (.aload_n 0, 1) := by decide +kernel
theorem dX10_isWord_115 : decode cX10_isWord 115 = .ok (.getfield 19, 3) := by decide +kernel
theorem dX10_isWord_118 : decode cX10_isWord 118 = .ok (.iload_n 1, 1) := by decide +kernel
theorem dX10_isWord_119 : decode cX10_isWord 119 = .ok (.iconst 4, 1) := by decide +kernel
theorem dX10_isWord_120 : decode cX10_isWord 120 = .ok (.iadd, 1) := by decide +kernel
theorem dX10_isWord_121 : decode cX10_isWord 121 = .ok (.iaload, 1) := by decide +kernel
theorem dX10_isWord_122 : decode cX10_isWord 122 = .ok (.iload 6, 2) := by decide +kernel
theorem dX10_isWord_124 : decode cX10_isWord 124 = .ok (.if_icmp .ne 27, 3) := by decide +kernel
theorem dX10_isWord_127 : decode cX10_isWord 127 = .ok (.iload 8, 2) := by decide +kernel
theorem dX10_isWord_129 : decode cX10_isWord 129 = .ok (.bipush 6, 2) := by decide +kernel
theorem dX10_isWord_131 : decode cX10_isWord 131 = .ok (.if_icmp .lt 16, 3) := by decide +kernel
theorem dX10_isWord_134 : decode cX10_isWord 134 = .ok (.aload_n 0, 1) := by decide +kernel
theorem dX10_isWord_135 : decode cX10_isWord 135 = .ok (.getfield 19, 3) := by decide +kernel
theorem dX10_isWord_138 : decode cX10_isWord 138 = .ok (.iload_n 1, 1) := by decide +kernel
theorem dX10_isWord_139 : decode cX10_isWord 139 = .ok (.iconst 5, 1) := by decide +kernel
theorem dX10_isWord_140 : decode cX10_isWord 140 = .ok (.iadd, 1) := by decide +kernel
theorem dX10_isWord_141 : decode cX10_isWord 141 = .ok (.iaload, 1) := by decide +kernel
theorem dX10_isWord_142 : decode cX10_isWord 142 = .ok (.iload 7, 2) := by decide +kernel
theorem dX10_isWord_144 : decode cX10_isWord 144 = .ok (.if_icmp .ne 7, 3) := by decide +kernel
theorem dX10_isWord_147 : decode cX10_isWord 147 = .ok (.iconst 1, 1) := by decide +kernel
theorem dX10_isWord_148 : decode cX10_isWord 148 = .ok (.goto 4, 3) := by decide +kernel
theorem dX10_isWord_151 : decode cX10_isWord 151 = .ok (.iconst 0, 1) := by decide +kernel
theorem dX10_isWord_152 : decode cX10_isWord 152 = .ok (.ireturn, 1) := by decide +kernel
def kX10_isWord : Nat → WOp := cN 74 (cN 42 (cN 16 (cN 6 (cN 1 (cN 0 (cL 0 (o_aload 1 0)) (cL 1 (o_getf 4 8 10))) (cN 4 (cL 4 (o_iload 5 1)) (cN 5 (cL 5 (o_isub 6)) (cL 6 (o_istore 8 8))))) (cN 10 (cN 8 (cL 8 (o_iload 10 8)) (cL 10 (o_iload 12 5))) (cN 12 (cL 12 (o_if_ne 19 15)) (cN 15 (cL 15 (o_push 16 3)) (cL 16 (o_goto 39)))))) (cN 28 (cN 21 (cN 19 (cL 19 (o_iload 21 6)) (cL 21 (o_if_ne 28 24))) (cN 24 (cL 24 (o_push 25 4)) (cN 25 (cL 25 (o_goto 39)) (cL 28 (o_iload 30 7))))) (cN 34 (cN 30 (cL 30 (o_if_ne 37 33)) (cN 33 (cL 33 (o_push 34 5)) (cL 34 (o_goto 39)))) (cN 37 (cL 37 (o_push 39 6)) (cN 39 (cL 39 (o_icmp_ne 81 42)) (cL 42 (o_aload 43 0))))))) (cN 58 (cN 49 (cN 46 (cN 43 (cL 43 (o_getf 46 8 5)) (cL 46 (o_iload 47 1))) (cN 47 (cL 47 (o_iald 48)) (cN 48 (cL 48 (o_iload 49 2)) (cL 49 (o_icmp_ne 81 52))))) (cN 53 (cN 52 (cL 52 (o_aload 53 0)) (cL 53 (o_getf 56 8 5))) (cN 56 (cL 56 (o_iload 57 1)) (cN 57 (cL 57 (o_push 58 1)) (cL 58 (o_iadd 59)))))) (cN 65 (cN 60 (cN 59 (cL 59 (o_iald 60)) (cL 60 (o_iload 61 3))) (cN 61 (cL 61 (o_icmp_ne 81 64)) (cN 64 (cL 64 (o_aload 65 0)) (cL 65 (o_getf 68 8 5))))) (cN 70 (cN 68 (cL 68 (o_iload 69 1)) (cN 69 (cL 69 (o_push 70 2)) (cL 70 (o_iadd 71)))) (cN 71 (cL 71 (o_iald 72)) (cN 72 (cL 72 (o_iload 74 4)) (cL 74 (o_icmp_ne 81 77)))))))) (cN 114 (cN 95 (cN 84 (cN 78 (cN 77 (cL 77 (o_push 78 1)) (cL 78 (o_goto 82))) (cN 81 (cL 81 (o_push 82 0)) (cN 82 (cL 82 (o_istore 84 9)) (cL 84 (o_iload 86 9))))) (cN 89 (cN 86 (cL 86 (o_if_eq 151 89)) (cL 89 (o_iload 91 8))) (cN 91 (cL 91 (o_push 92 4)) (cN 92 (cL 92 (o_icmp_lt 108 95)) (cL 95 (o_aload 96 0)))))) (cN 102 (cN 99 (cN 96 (cL 96 (o_getf 99 8 5)) (cL 99 (o_iload 100 1))) (cN 100 (cL 100 (o_push 101 3)) (cN 101 (cL 101 (o_iadd 102)) (cL 102 (o_iald 103))))) (cN 108 (cN 103 (cL 103 (o_iload 105 5)) (cN 105 (cL 105 (o_icmp_ne 151 108)) (cL 108 (o_iload 110 8)))) (cN 110 (cL 110 (o_push 111 5)) (cN 111 (cL 111 (o_icmp_lt 127 114)) (cL 114 (o_aload 115 0))))))) (cN 134 (cN 121 (cN 118 (cN 115 (cL 115 (o_getf 118 8 5)) (cL 118 (o_iload 119 1))) (cN 119 (cL 119 (o_push 120 4)) (cN 120 (cL 120 (o_iadd 121)) (cL 121 (o_iald 122))))) (cN 127 (cN 122 (cL 122 (o_iload 124 6)) (cN 124 (cL 124 (o_icmp_ne 151 127)) (cL 127 (o_iload 129 8)))) (cN 129 (cL 129 (o_push 131 6)) (cN 131 (cL 131 (o_icmp_lt 147 134)) (cL 134 (o_aload 135 0)))))) (cN 141 (cN 138 (cN 135 (cL 135 (o_getf 138 8 5)) (cL 138 (o_iload 139 1))) (cN 139 (cL 139 (o_push 140 5)) (cN 140 (cL 140 (o_iadd 141)) (cL 141 (o_iald 142))))) (cN 147 (cN 142 (cL 142 (o_iload 144 7)) (cN 144 (cL 144 (o_icmp_ne 151 147)) (cL 147 (o_push 148 1)))) (cN 148 (cL 148 (o_goto 152)) (cN 151 (cL 151 (o_push 152 0)) (cL 152 (o_zret))))))))
theorem sX10_isWord : ∀ pc, Snd tX10_isWord G1 pc (kX10_isWord pc) := s_N (s_N (s_N (s_N (s_N (s_N (s_L (s_aload_n dX10_isWord_0 rfl)) (s_L (s_getf ok_8 (k := 10) (by decide) dX10_isWord_1 qw_982))) (s_N (s_L (s_iload_n dX10_isWord_4 rfl)) (s_N (s_L (s_o_isub dX10_isWord_5)) (s_L (s_istore dX10_isWord_6 (by decide)))))) (s_N (s_N (s_L (s_iload dX10_isWord_8)) (s_L (s_iload dX10_isWord_10))) (s_N (s_L (s_o_if_ne dX10_isWord_12 (by decide))) (s_N (s_L (s_iconst dX10_isWord_15 (by decide +kernel))) (s_L (s_o_goto dX10_isWord_16 (by decide))))))) (s_N (s_N (s_N (s_L (s_iload dX10_isWord_19)) (s_L (s_o_if_ne dX10_isWord_21 (by decide)))) (s_N (s_L (s_iconst dX10_isWord_24 (by decide +kernel))) (s_N (s_L (s_o_goto dX10_isWord_25 (by decide))) (s_L (s_iload dX10_isWord_28))))) (s_N (s_N (s_L (s_o_if_ne dX10_isWord_30 (by decide))) (s_N (s_L (s_iconst dX10_isWord_33 (by decide +kernel))) (s_L (s_o_goto dX10_isWord_34 (by decide))))) (s_N (s_L (s_bipush dX10_isWord_37 (by decide +kernel))) (s_N (s_L (s_o_icmp_ne dX10_isWord_39 (by decide))) (s_L (s_aload_n dX10_isWord_42 rfl))))))) (s_N (s_N (s_N (s_N (s_L (s_getf ok_8 (k := 5) (by decide) dX10_isWord_43 qw_977)) (s_L (s_iload_n dX10_isWord_46 rfl))) (s_N (s_L (s_iald dX10_isWord_47)) (s_N (s_L (s_iload_n dX10_isWord_48 rfl)) (s_L (s_o_icmp_ne dX10_isWord_49 (by decide)))))) (s_N (s_N (s_L (s_aload_n dX10_isWord_52 rfl)) (s_L (s_getf ok_8 (k := 5) (by decide) dX10_isWord_53 qw_977))) (s_N (s_L (s_iload_n dX10_isWord_56 rfl)) (s_N (s_L (s_iconst dX10_isWord_57 (by decide +kernel))) (s_L (s_o_iadd dX10_isWord_58)))))) (s_N (s_N (s_N (s_L (s_iald dX10_isWord_59)) (s_L (s_iload_n dX10_isWord_60 rfl))) (s_N (s_L (s_o_icmp_ne dX10_isWord_61 (by decide))) (s_N (s_L (s_aload_n dX10_isWord_64 rfl)) (s_L (s_getf ok_8 (k := 5) (by decide) dX10_isWord_65 qw_977))))) (s_N (s_N (s_L (s_iload_n dX10_isWord_68 rfl)) (s_N (s_L (s_iconst dX10_isWord_69 (by decide +kernel))) (s_L (s_o_iadd dX10_isWord_70)))) (s_N (s_L (s_iald dX10_isWord_71)) (s_N (s_L (s_iload dX10_isWord_72)) (s_L (s_o_icmp_ne dX10_isWord_74 (by decide))))))))) (s_N (s_N (s_N (s_N (s_N (s_L (s_iconst dX10_isWord_77 (by decide +kernel))) (s_L (s_o_goto dX10_isWord_78 (by decide)))) (s_N (s_L (s_iconst dX10_isWord_81 (by decide +kernel))) (s_N (s_L (s_istore dX10_isWord_82 (by decide))) (s_L (s_iload dX10_isWord_84))))) (s_N (s_N (s_L (s_o_if_eq dX10_isWord_86 (by decide))) (s_L (s_iload dX10_isWord_89))) (s_N (s_L (s_iconst dX10_isWord_91 (by decide +kernel))) (s_N (s_L (s_o_icmp_lt dX10_isWord_92 (by decide))) (s_L (s_aload_n dX10_isWord_95 rfl)))))) (s_N (s_N (s_N (s_L (s_getf ok_8 (k := 5) (by decide) dX10_isWord_96 qw_977)) (s_L (s_iload_n dX10_isWord_99 rfl))) (s_N (s_L (s_iconst dX10_isWord_100 (by decide +kernel))) (s_N (s_L (s_o_iadd dX10_isWord_101)) (s_L (s_iald dX10_isWord_102))))) (s_N (s_N (s_L (s_iload dX10_isWord_103)) (s_N (s_L (s_o_icmp_ne dX10_isWord_105 (by decide))) (s_L (s_iload dX10_isWord_108)))) (s_N (s_L (s_iconst dX10_isWord_110 (by decide +kernel))) (s_N (s_L (s_o_icmp_lt dX10_isWord_111 (by decide))) (s_L (s_aload_n dX10_isWord_114 rfl))))))) (s_N (s_N (s_N (s_N (s_L (s_getf ok_8 (k := 5) (by decide) dX10_isWord_115 qw_977)) (s_L (s_iload_n dX10_isWord_118 rfl))) (s_N (s_L (s_iconst dX10_isWord_119 (by decide +kernel))) (s_N (s_L (s_o_iadd dX10_isWord_120)) (s_L (s_iald dX10_isWord_121))))) (s_N (s_N (s_L (s_iload dX10_isWord_122)) (s_N (s_L (s_o_icmp_ne dX10_isWord_124 (by decide))) (s_L (s_iload dX10_isWord_127)))) (s_N (s_L (s_bipush dX10_isWord_129 (by decide +kernel))) (s_N (s_L (s_o_icmp_lt dX10_isWord_131 (by decide))) (s_L (s_aload_n dX10_isWord_134 rfl)))))) (s_N (s_N (s_N (s_L (s_getf ok_8 (k := 5) (by decide) dX10_isWord_135 qw_977)) (s_L (s_iload_n dX10_isWord_138 rfl))) (s_N (s_L (s_iconst dX10_isWord_139 (by decide +kernel))) (s_N (s_L (s_o_iadd dX10_isWord_140)) (s_L (s_iald dX10_isWord_141))))) (s_N (s_N (s_L (s_iload dX10_isWord_142)) (s_N (s_L (s_o_icmp_ne dX10_isWord_144 (by decide))) (s_L (s_iconst dX10_isWord_147 (by decide +kernel))))) (s_N (s_L (s_o_goto dX10_isWord_148 (by decide))) (s_N (s_L (s_iconst dX10_isWord_151 (by decide +kernel))) (s_L (s_zret rfl dX10_isWord_152))))))))
/-! PlateArmModel.commandAt -/
theorem dX10_commandAt_0 : decode cX10_commandAt 0 = .ok (.aload_n 0, 1) := by decide +kernel
theorem dX10_commandAt_1 : decode cX10_commandAt 1 = .ok (.iload_n 1, 1) := by decide +kernel
theorem dX10_commandAt_2 : decode cX10_commandAt 2 = .ok (.bipush 112, 2) := by decide +kernel
theorem dX10_commandAt_4 : decode cX10_commandAt 4 = .ok (.bipush 108, 2) := by decide +kernel
theorem dX10_commandAt_6 : decode cX10_commandAt 6 = .ok (.bipush 97, 2) := by decide +kernel
theorem dX10_commandAt_8 : decode cX10_commandAt 8 = .ok (.bipush 116, 2) := by decide +kernel
theorem dX10_commandAt_10 : decode cX10_commandAt 10 = .ok (.bipush 101, 2) := by decide +kernel
theorem dX10_commandAt_12 : decode cX10_commandAt 12 = .ok (.iconst 0, 1) := by decide +kernel
theorem dX10_commandAt_13 : decode cX10_commandAt 13 = .ok (.invokevirtual 152, 3) := by decide +kernel
theorem dX10_commandAt_16 : decode cX10_commandAt 16 = .ok (.ifCond .eq 5, 3) := by decide +kernel
theorem dX10_commandAt_19 : decode cX10_commandAt 19 = .ok (.iconst 0, 1) := by decide +kernel
theorem dX10_commandAt_20 : decode cX10_commandAt 20 = .ok (.ireturn, 1) := by decide +kernel
theorem dX10_commandAt_21 : decode cX10_commandAt 21 = .ok (.aload_n 0, 1) := by decide +kernel
theorem dX10_commandAt_22 : decode cX10_commandAt 22 = .ok (.iload_n 1, 1) := by decide +kernel
theorem dX10_commandAt_23 : decode cX10_commandAt 23 = .ok (.bipush 114, 2) := by decide +kernel
theorem dX10_commandAt_25 : decode cX10_commandAt 25 = .ok (.bipush 101, 2) := by decide +kernel
theorem dX10_commandAt_27 : decode cX10_commandAt 27 = .ok (.bipush 97, 2) := by decide +kernel
theorem dX10_commandAt_29 : decode cX10_commandAt 29 = .ok (.bipush 100, 2) := by decide +kernel
theorem dX10_commandAt_31 : decode cX10_commandAt 31 = .ok (.iconst 0, 1) := by decide +kernel
theorem dX10_commandAt_32 : decode cX10_commandAt 32 = .ok (.iconst 0, 1) := by decide +kernel
theorem dX10_commandAt_33 : decode cX10_commandAt 33 = .ok (.invokevirtual 152, 3) := by decide +kernel
theorem dX10_commandAt_36 : decode cX10_commandAt 36 = .ok (.ifCond .eq 5, 3) := by decide +kernel
theorem dX10_commandAt_39 : decode cX10_commandAt 39 = .ok (.iconst 1, 1) := by decide +kernel
theorem dX10_commandAt_40 : decode cX10_commandAt 40 = .ok (.ireturn, 1) := by decide +kernel
theorem dX10_commandAt_41 : decode cX10_commandAt 41 = .ok (.aload_n 0, 1) := by decide +kernel
theorem dX10_commandAt_42 : decode cX10_commandAt 42 = .ok (.iload_n 1, 1) := by decide +kernel
theorem dX10_commandAt_43 : decode cX10_commandAt 43 = .ok (.bipush 99, 2) := by decide +kernel
theorem dX10_commandAt_45 : decode cX10_commandAt 45 = .ok (.bipush 97, 2) := by decide +kernel
theorem dX10_commandAt_47 : decode cX10_commandAt 47 = .ok (.bipush 110, 2) := by decide +kernel
theorem dX10_commandAt_49 : decode cX10_commandAt 49 = .ok (.bipush 99, 2) := by decide +kernel
theorem dX10_commandAt_51 : decode cX10_commandAt 51 = .ok (.bipush 101, 2) := by decide +kernel
theorem dX10_commandAt_53 : decode cX10_commandAt 53 = .ok (.bipush 108, 2) := by decide +kernel
theorem dX10_commandAt_55 : decode cX10_commandAt 55 = .ok (.invokevirtual 152, 3) := by decide +kernel
theorem dX10_commandAt_58 : decode cX10_commandAt 58 = .ok (.ifCond .eq 5, 3) := by decide +kernel
theorem dX10_commandAt_61 : decode cX10_commandAt 61 = .ok (.iconst 2, 1) := by decide +kernel
theorem dX10_commandAt_62 : decode cX10_commandAt 62 = .ok (.ireturn, 1) := by decide +kernel
theorem dX10_commandAt_63 : decode cX10_commandAt 63 = .ok (.aload_n 0, 1) := by decide +kernel
theorem dX10_commandAt_64 : decode cX10_commandAt 64 = .ok (.iload_n 1, 1) := by decide +kernel
theorem dX10_commandAt_65 : decode cX10_commandAt 65 = .ok (.bipush 115, 2) := by decide +kernel
theorem dX10_commandAt_67 : decode cX10_commandAt 67 = .ok (.bipush 101, 2) := by decide +kernel
theorem dX10_commandAt_69 : decode cX10_commandAt 69 = .ok (.bipush 116, 2) := by decide +kernel
theorem dX10_commandAt_71 : decode cX10_commandAt 71 = .ok (.iconst 0, 1) := by decide +kernel
theorem dX10_commandAt_72 : decode cX10_commandAt 72 = .ok (.iconst 0, 1) := by decide +kernel
theorem dX10_commandAt_73 : decode cX10_commandAt 73 = .ok (.iconst 0, 1) := by decide +kernel
theorem dX10_commandAt_74 : decode cX10_commandAt 74 = .ok (.invokevirtual 152, 3) := by decide +kernel
theorem dX10_commandAt_77 : decode cX10_commandAt 77 = .ok (.ifCond .eq 7, 3) := by decide +kernel
theorem dX10_commandAt_80 : decode cX10_commandAt 80 = .ok (.iconst 3, 1) := by decide +kernel
theorem dX10_commandAt_81 : decode cX10_commandAt 81 = .ok (.goto 27, 3) := by decide +kernel
theorem dX10_commandAt_84 : decode cX10_commandAt 84 = .ok (.aload_n 0, 1) := by decide +kernel
theorem dX10_commandAt_85 : decode cX10_commandAt 85 = .ok (.iload_n 1, 1) := by decide +kernel
theorem dX10_commandAt_86 : decode cX10_commandAt 86 = .ok (.bipush 116, 2) := by decide +kernel
theorem dX10_commandAt_88 : decode cX10_commandAt 88 = .ok (.bipush 105, 2) := by decide +kernel
theorem dX10_commandAt_90 : decode cX10_commandAt 90 = .ok (.bipush 99, 2) := by decide +kernel
theorem dX10_commandAt_92 : decode cX10_commandAt 92 = .ok (.bipush 107, 2) := by decide +kernel
theorem dX10_commandAt_94 : decode cX10_commandAt 94 = .ok (.bipush 115, 2) := by decide +kernel
theorem dX10_commandAt_96 : decode cX10_commandAt 96 = .ok (.iconst 0, 1) := by decide +kernel
theorem dX10_commandAt_97 : decode cX10_commandAt 97 = .ok (.invokevirtual 152, 3) := by decide +kernel
theorem dX10_commandAt_100 : decode cX10_commandAt 100 = .ok (.ifCond .eq 7, 3) := by decide +kernel
theorem dX10_commandAt_103 : decode cX10_commandAt 103 = .ok (.iconst 4, 1) := by decide +kernel
theorem dX10_commandAt_104 : decode cX10_commandAt 104 = .ok (.goto 4, 3) := by decide +kernel
theorem dX10_commandAt_107 : decode cX10_commandAt 107 = .ok (.iconst (-1), 1) := by decide +kernel
theorem dX10_commandAt_108 : decode cX10_commandAt 108 = .ok (.ireturn, 1) := by decide +kernel
theorem cc_X10_commandAt_X10_isWord : CallC tX10_commandAt tX10_isWord 7 := ⟨by decide +kernel, by decide +kernel, by decide +kernel, by decide, by decide, qw_80, qw_1248⟩
def kX10_commandAt : Nat → WOp := cN 51 (cN 23 (cN 10 (cN 2 (cN 0 (cL 0 (o_aload 1 0)) (cN 1 (cL 1 (o_iload 2 1)) (cL 2 (o_push 4 112)))) (cN 6 (cN 4 (cL 4 (o_push 6 108)) (cL 6 (o_push 8 97))) (cN 8 (cL 8 (o_push 10 116)) (cL 10 (o_push 12 101))))) (cN 19 (cN 13 (cN 12 (cL 12 (o_push 13 0)) (cL 13 (o_callV 16 8 7 tX10_isWord 0 0))) (cN 16 (cL 16 (o_if_eq 21 19)) (cL 19 (o_push 20 0)))) (cN 21 (cN 20 (cL 20 (o_iret)) (cL 21 (o_aload 22 0))) (cN 22 (cL 22 (o_iload 23 1)) (cL 23 (o_push 25 114)))))) (cN 39 (cN 31 (cN 27 (cN 25 (cL 25 (o_push 27 101)) (cL 27 (o_push 29 97))) (cN 29 (cL 29 (o_push 31 100)) (cL 31 (o_push 32 0)))) (cN 33 (cN 32 (cL 32 (o_push 33 0)) (cL 33 (o_callV 36 8 7 tX10_isWord 0 0))) (cN 36 (cL 36 (o_if_eq 41 39)) (cL 39 (o_push 40 1))))) (cN 43 (cN 41 (cN 40 (cL 40 (o_iret)) (cL 41 (o_aload 42 0))) (cN 42 (cL 42 (o_iload 43 1)) (cL 43 (o_push 45 99)))) (cN 47 (cN 45 (cL 45 (o_push 47 97)) (cL 47 (o_push 49 110))) (cN 49 (cL 49 (o_push 51 99)) (cL 51 (o_push 53 101))))))) (cN 77 (cN 64 (cN 58 (cN 53 (cL 53 (o_push 55 108)) (cN 55 (cL 55 (o_callV 58 8 7 tX10_isWord 0 0)) (cL 58 (o_if_eq 63 61)))) (cN 62 (cN 61 (cL 61 (o_push 62 2)) (cL 62 (o_iret))) (cN 63 (cL 63 (o_aload 64 0)) (cL 64 (o_iload 65 1))))) (cN 71 (cN 67 (cN 65 (cL 65 (o_push 67 115)) (cL 67 (o_push 69 101))) (cN 69 (cL 69 (o_push 71 116)) (cL 71 (o_push 72 0)))) (cN 73 (cN 72 (cL 72 (o_push 73 0)) (cL 73 (o_push 74 0))) (cN 74 (cL 74 (o_callV 77 8 7 tX10_isWord 0 0)) (cL 77 (o_if_eq 84 80)))))) (cN 92 (cN 85 (cN 81 (cN 80 (cL 80 (o_push 81 3)) (cL 81 (o_goto 108))) (cN 84 (cL 84 (o_aload 85 0)) (cL 85 (o_iload 86 1)))) (cN 88 (cN 86 (cL 86 (o_push 88 116)) (cL 88 (o_push 90 105))) (cN 90 (cL 90 (o_push 92 99)) (cL 92 (o_push 94 107))))) (cN 100 (cN 96 (cN 94 (cL 94 (o_push 96 115)) (cL 96 (o_push 97 0))) (cN 97 (cL 97 (o_callV 100 8 7 tX10_isWord 0 0)) (cL 100 (o_if_eq 107 103)))) (cN 104 (cN 103 (cL 103 (o_push 104 4)) (cL 104 (o_goto 108))) (cN 107 (cL 107 (o_push 108 (-1))) (cL 108 (o_iret)))))))
theorem sX10_commandAt : ∀ pc, Snd tX10_commandAt G1 pc (kX10_commandAt pc) := s_N (s_N (s_N (s_N (s_N (s_L (s_aload_n dX10_commandAt_0 rfl)) (s_N (s_L (s_iload_n dX10_commandAt_1 rfl)) (s_L (s_bipush dX10_commandAt_2 (by decide +kernel))))) (s_N (s_N (s_L (s_bipush dX10_commandAt_4 (by decide +kernel))) (s_L (s_bipush dX10_commandAt_6 (by decide +kernel)))) (s_N (s_L (s_bipush dX10_commandAt_8 (by decide +kernel))) (s_L (s_bipush dX10_commandAt_10 (by decide +kernel)))))) (s_N (s_N (s_N (s_L (s_iconst dX10_commandAt_12 (by decide +kernel))) (s_L (s_callV (d' := tX10_isWord) (mc := 0) (ms := 0) ok_8 cc_X10_commandAt_X10_isWord qw_1245 qw_1247 qw_65 dX10_commandAt_13))) (s_N (s_L (s_o_if_eq dX10_commandAt_16 (by decide))) (s_L (s_iconst dX10_commandAt_19 (by decide +kernel))))) (s_N (s_N (s_L (s_iret rfl dX10_commandAt_20)) (s_L (s_aload_n dX10_commandAt_21 rfl))) (s_N (s_L (s_iload_n dX10_commandAt_22 rfl)) (s_L (s_bipush dX10_commandAt_23 (by decide +kernel))))))) (s_N (s_N (s_N (s_N (s_L (s_bipush dX10_commandAt_25 (by decide +kernel))) (s_L (s_bipush dX10_commandAt_27 (by decide +kernel)))) (s_N (s_L (s_bipush dX10_commandAt_29 (by decide +kernel))) (s_L (s_iconst dX10_commandAt_31 (by decide +kernel))))) (s_N (s_N (s_L (s_iconst dX10_commandAt_32 (by decide +kernel))) (s_L (s_callV (d' := tX10_isWord) (mc := 0) (ms := 0) ok_8 cc_X10_commandAt_X10_isWord qw_1245 qw_1247 qw_65 dX10_commandAt_33))) (s_N (s_L (s_o_if_eq dX10_commandAt_36 (by decide))) (s_L (s_iconst dX10_commandAt_39 (by decide +kernel)))))) (s_N (s_N (s_N (s_L (s_iret rfl dX10_commandAt_40)) (s_L (s_aload_n dX10_commandAt_41 rfl))) (s_N (s_L (s_iload_n dX10_commandAt_42 rfl)) (s_L (s_bipush dX10_commandAt_43 (by decide +kernel))))) (s_N (s_N (s_L (s_bipush dX10_commandAt_45 (by decide +kernel))) (s_L (s_bipush dX10_commandAt_47 (by decide +kernel)))) (s_N (s_L (s_bipush dX10_commandAt_49 (by decide +kernel))) (s_L (s_bipush dX10_commandAt_51 (by decide +kernel)))))))) (s_N (s_N (s_N (s_N (s_L (s_bipush dX10_commandAt_53 (by decide +kernel))) (s_N (s_L (s_callV (d' := tX10_isWord) (mc := 0) (ms := 0) ok_8 cc_X10_commandAt_X10_isWord qw_1245 qw_1247 qw_65 dX10_commandAt_55)) (s_L (s_o_if_eq dX10_commandAt_58 (by decide))))) (s_N (s_N (s_L (s_iconst dX10_commandAt_61 (by decide +kernel))) (s_L (s_iret rfl dX10_commandAt_62))) (s_N (s_L (s_aload_n dX10_commandAt_63 rfl)) (s_L (s_iload_n dX10_commandAt_64 rfl))))) (s_N (s_N (s_N (s_L (s_bipush dX10_commandAt_65 (by decide +kernel))) (s_L (s_bipush dX10_commandAt_67 (by decide +kernel)))) (s_N (s_L (s_bipush dX10_commandAt_69 (by decide +kernel))) (s_L (s_iconst dX10_commandAt_71 (by decide +kernel))))) (s_N (s_N (s_L (s_iconst dX10_commandAt_72 (by decide +kernel))) (s_L (s_iconst dX10_commandAt_73 (by decide +kernel)))) (s_N (s_L (s_callV (d' := tX10_isWord) (mc := 0) (ms := 0) ok_8 cc_X10_commandAt_X10_isWord qw_1245 qw_1247 qw_65 dX10_commandAt_74)) (s_L (s_o_if_eq dX10_commandAt_77 (by decide))))))) (s_N (s_N (s_N (s_N (s_L (s_iconst dX10_commandAt_80 (by decide +kernel))) (s_L (s_o_goto dX10_commandAt_81 (by decide)))) (s_N (s_L (s_aload_n dX10_commandAt_84 rfl)) (s_L (s_iload_n dX10_commandAt_85 rfl)))) (s_N (s_N (s_L (s_bipush dX10_commandAt_86 (by decide +kernel))) (s_L (s_bipush dX10_commandAt_88 (by decide +kernel)))) (s_N (s_L (s_bipush dX10_commandAt_90 (by decide +kernel))) (s_L (s_bipush dX10_commandAt_92 (by decide +kernel)))))) (s_N (s_N (s_N (s_L (s_bipush dX10_commandAt_94 (by decide +kernel))) (s_L (s_iconst dX10_commandAt_96 (by decide +kernel)))) (s_N (s_L (s_callV (d' := tX10_isWord) (mc := 0) (ms := 0) ok_8 cc_X10_commandAt_X10_isWord qw_1245 qw_1247 qw_65 dX10_commandAt_97)) (s_L (s_o_if_eq dX10_commandAt_100 (by decide))))) (s_N (s_N (s_L (s_iconst dX10_commandAt_103 (by decide +kernel))) (s_L (s_o_goto dX10_commandAt_104 (by decide)))) (s_N (s_L (s_iconst dX10_commandAt_107 (by decide +kernel))) (s_L (s_iret rfl dX10_commandAt_108)))))))
/-! PlateArmModel.number -/
theorem dX10_number_0 : decode cX10_number 0 = .ok (.aload_n 0, 1) := by decide +kernel
theorem dX10_number_1 : decode cX10_number 1 = .ok (.bipush 32, 2) := by decide +kernel
theorem dX10_number_3 : decode cX10_number 3 = .ok (.bipush 32, 2) := by decide +kernel
theorem dX10_number_5 : decode cX10_number 5 = .ok (.invokevirtual 149, 3) := by decide +kernel
theorem dX10_number_8 : decode cX10_number 8 = .ok (.ifCond .ne 5, 3) := by decide +kernel
theorem dX10_number_11 : decode cX10_number 11 = .ok (.iconst 0, 1) := by decide +kernel
theorem dX10_number_12 : decode cX10_number 12 = .ok (.ireturn, 1) := by decide +kernel
theorem dX10_number_13 : decode cX10_number 13 = .ok (.aload_n 0, 1) := by decide +kernel
theorem dX10_number_14 : decode cX10_number 14 = .ok (.invokevirtual 156, 3) := by decide +kernel
theorem dX10_number_17 : decode cX10_number 17 = .ok (.aload_n 0, 1) := by decide +kernel
theorem dX10_number_18 : decode cX10_number 18 = .ok (.getfield 146, 3) := by decide +kernel
theorem dX10_number_21 : decode cX10_number 21 = .ok (.istore_n 2, 1) := by decide +kernel
theorem dX10_number_22 : decode cX10_number 22 = .ok (.aload_n 0, 1) := by decide +kernel
theorem dX10_number_23 : decode cX10_number 23 = .ok (.getfield 26, 3) := by decide +kernel
theorem dX10_number_26 : decode cX10_number 26 = .ok (.iload_n 1, 1) := by decide +kernel
theorem dX10_number_27 : decode cX10_number 27 = .ok (.iconst 0, 1) := by decide +kernel
theorem dX10_number_28 : decode cX10_number 28 = .ok (.iastore, 1) := by decide +kernel
theorem dX10_number_29 : decode cX10_number 29 = .ok (.aload_n 0, 1) := by decide +kernel
theorem dX10_number_30 : decode cX10_number 30 = .ok (.bipush 48, 2) := by decide +kernel
theorem dX10_number_32 : decode cX10_number 32 = .ok (.bipush 57, 2) := by decide +kernel
theorem dX10_number_34 : decode cX10_number 34 = .ok (.invokevirtual 149, 3) := by decide +kernel
theorem dX10_number_37 : decode cX10_number 37 = .ok (.ifCond .eq 54, 3) := by decide +kernel
theorem dX10_number_40 : decode cX10_number 40 = .ok (.aload_n 0, 1) := by decide +kernel
theorem dX10_number_41 : decode cX10_number 41 = .ok (.getfield 146, 3) := by decide +kernel
theorem dX10_number_44 : decode cX10_number 44 = .ok (.iload_n 2, 1) := by decide +kernel
theorem dX10_number_45 : decode cX10_number 45 = .ok (.isub, 1) := by decide +kernel
theorem dX10_number_46 : decode cX10_number 46 = .ok (.iconst 4, 1) := by decide +kernel
theorem dX10_number_47 : decode cX10_number 47 = .ok (.if_icmp .ge 44, 3) := by decide +kernel
theorem dX10_number_50 : decode cX10_number 50 = .ok (.aload_n 0, 1) := by decide +kernel
theorem dX10_number_51 : decode cX10_number 51 = .ok (.getfield 26, 3) := by decide +kernel
theorem dX10_number_54 : decode cX10_number 54 = .ok (.iload_n 1, 1) := by decide +kernel
theorem dX10_number_55 : decode cX10_number 55 = .ok (.bipush 10, 2) := by decide +kernel
theorem dX10_number_57 : decode cX10_number 57 = .ok (.aload_n 0, 1) := by decide +kernel
theorem dX10_number_58 : decode cX10_number 58 = .ok (.getfield 26, 3) := by decide +kernel
theorem dX10_number_61 : decode cX10_number 61 = .ok (.iload_n 1, 1) := by decide +kernel
theorem dX10_number_62 : decode cX10_number 62 = .ok (.iaload, 1) := by decide +kernel
theorem dX10_number_63 : decode cX10_number 63 = .ok (.imul, 1) := by decide +kernel
theorem dX10_number_64 : decode cX10_number 64 = .ok (.aload_n 0, 1) := by decide +kernel
theorem dX10_number_65 : decode cX10_number 65 = .ok (.getfield 19, 3) := by decide +kernel
theorem dX10_number_68 : decode cX10_number 68 = .ok (.aload_n 0, 1) := by decide +kernel
theorem dX10_number_69 : decode cX10_number 69 = .ok (.getfield 146, 3) := by decide +kernel
theorem dX10_number_72 : decode cX10_number 72 = .ok (.iaload, 1) := by decide +kernel
theorem dX10_number_73 : decode cX10_number 73 = .ok (.iadd, 1) := by decide +kernel
theorem dX10_number_74 : decode cX10_number 74 = .ok (.bipush 48, 2) := by decide +kernel
theorem dX10_number_76 : decode cX10_number 76 = .ok (.isub, 1) := by decide +kernel
theorem dX10_number_77 : decode cX10_number 77 = .ok (.iastore, 1) := by decide +kernel
theorem dX10_number_78 : decode cX10_number 78 = .ok (.aload_n 0, 1) := by decide +kernel
theorem dX10_number_79 : decode cX10_number 79 = .ok (.dup, 1) := by decide +kernel
theorem dX10_number_80 : decode cX10_number 80 = .ok (.getfield 146, 3) := by decide +kernel
theorem dX10_number_83 : decode cX10_number 83 = .ok (.iconst 1, 1) := by decide +kernel
theorem dX10_number_84 : decode cX10_number 84 = .ok (.iadd, 1) := by decide +kernel
theorem dX10_number_85 : decode cX10_number 85 = .ok (.putfield 146, 3) := by decide +kernel
theorem dX10_number_88 : decode cX10_number 88 = .ok (.goto (-59), 3) := by decide +kernel
theorem dX10_number_91 : decode cX10_number 91 = .ok (.aload_n 0, 1) := by decide +kernel
theorem dX10_number_92 : decode cX10_number 92 = .ok (.getfield 146, 3) := by decide +kernel
theorem dX10_number_95 : decode cX10_number 95 = .ok (.iload_n 2, 1) := by decide +kernel
theorem dX10_number_96 : decode cX10_number 96 = .ok (.if_icmp .le 18, 3) := by decide +kernel
theorem dX10_number_99 : decode cX10_number 99 = .ok (.aload_n 0, 1) := by decide +kernel
theorem dX10_number_100 : decode cX10_number 100 = .ok (.bipush 48, 2) := by decide +kernel
theorem dX10_number_102 : decode cX10_number 102 = .ok (.bipush 57, 2) := by decide +kernel
theorem dX10_number_104 : decode cX10_number 104 = .ok (.invokevirtual 149, 3) := by decide +kernel
theorem dX10_number_107 : decode cX10_number 107 = .ok (.ifCond .ne 7, 3) := by decide +kernel
theorem dX10_number_110 : decode cX10_number 110 = .ok (.iconst 1, 1) := by decide +kernel
theorem dX10_number_111 : decode cX10_number 111 = .ok (.goto 4, 3) := by decide +kernel
theorem dX10_number_114 : decode cX10_number 114 = .ok (.iconst 0, 1) := by decide +kernel
theorem dX10_number_115 : decode cX10_number 115 = .ok (.ireturn, 1) := by decide +kernel
theorem cc_X10_number_X10_isAt : CallC tX10_number tX10_isAt 2 := ⟨by decide +kernel, by decide +kernel, by decide +kernel, by decide, by decide, qw_80, qw_1236⟩
theorem cc_X10_number_X10_skips : CallC tX10_number tX10_skips 0 := ⟨by decide +kernel, by decide +kernel, by decide +kernel, by decide, by decide, qw_80, qw_1232⟩
def kX10_number : Nat → WOp := cN 57 (cN 27 (cN 13 (cN 5 (cN 1 (cN 0 (cL 0 (o_aload 1 0)) (cL 1 (o_push 3 32))) (cN 3 (cL 3 (o_push 5 32)) (cL 5 (o_callV 8 8 2 tX10_isAt 0 0)))) (cN 11 (cN 8 (cL 8 (o_if_ne 13 11)) (cL 11 (o_push 12 0))) (cN 12 (cL 12 (o_zret)) (cL 13 (o_aload 14 0))))) (cN 21 (cN 17 (cN 14 (cL 14 (o_callV 17 8 0 tX10_skips 0 0)) (cL 17 (o_aload 18 0))) (cN 18 (cL 18 (o_getf 21 8 10)) (cL 21 (o_istore 22 2)))) (cN 23 (cN 22 (cL 22 (o_aload 23 0)) (cL 23 (o_getf 26 8 12))) (cN 26 (cL 26 (o_iload 27 1)) (cL 27 (o_push 28 0)))))) (cN 41 (cN 32 (cN 29 (cN 28 (cL 28 (o_iast 29)) (cL 29 (o_aload 30 0))) (cN 30 (cL 30 (o_push 32 48)) (cL 32 (o_push 34 57)))) (cN 37 (cN 34 (cL 34 (o_callV 37 8 2 tX10_isAt 0 0)) (cL 37 (o_if_eq 91 40))) (cN 40 (cL 40 (o_aload 41 0)) (cL 41 (o_getf 44 8 10))))) (cN 47 (cN 45 (cN 44 (cL 44 (o_iload 45 2)) (cL 45 (o_isub 46))) (cN 46 (cL 46 (o_push 47 4)) (cL 47 (o_icmp_ge 91 50)))) (cN 51 (cN 50 (cL 50 (o_aload 51 0)) (cL 51 (o_getf 54 8 12))) (cN 54 (cL 54 (o_iload 55 1)) (cN 55 (cL 55 (o_push 57 10)) (cL 57 (o_aload 58 0)))))))) (cN 80 (cN 69 (cN 63 (cN 61 (cN 58 (cL 58 (o_getf 61 8 12)) (cL 61 (o_iload 62 1))) (cN 62 (cL 62 (o_iald 63)) (cL 63 (o_imul 64)))) (cN 65 (cN 64 (cL 64 (o_aload 65 0)) (cL 65 (o_getf 68 8 5))) (cN 68 (cL 68 (o_aload 69 0)) (cL 69 (o_getf 72 8 10))))) (cN 76 (cN 73 (cN 72 (cL 72 (o_iald 73)) (cL 73 (o_iadd 74))) (cN 74 (cL 74 (o_push 76 48)) (cL 76 (o_isub 77)))) (cN 78 (cN 77 (cL 77 (o_iast 78)) (cL 78 (o_aload 79 0))) (cN 79 (cL 79 (o_dup 80)) (cL 80 (o_getf 83 8 10)))))) (cN 96 (cN 88 (cN 84 (cN 83 (cL 83 (o_push 84 1)) (cL 84 (o_iadd 85))) (cN 85 (cL 85 (o_puti 88 8 10)) (cL 88 (o_goto 29)))) (cN 92 (cN 91 (cL 91 (o_aload 92 0)) (cL 92 (o_getf 95 8 10))) (cN 95 (cL 95 (o_iload 96 2)) (cL 96 (o_icmp_le 114 99))))) (cN 104 (cN 100 (cN 99 (cL 99 (o_aload 100 0)) (cL 100 (o_push 102 48))) (cN 102 (cL 102 (o_push 104 57)) (cL 104 (o_callV 107 8 2 tX10_isAt 0 0)))) (cN 110 (cN 107 (cL 107 (o_if_ne 114 110)) (cL 110 (o_push 111 1))) (cN 111 (cL 111 (o_goto 115)) (cN 114 (cL 114 (o_push 115 0)) (cL 115 (o_zret))))))))
theorem sX10_number : ∀ pc, Snd tX10_number G1 pc (kX10_number pc) := s_N (s_N (s_N (s_N (s_N (s_N (s_L (s_aload_n dX10_number_0 rfl)) (s_L (s_bipush dX10_number_1 (by decide +kernel)))) (s_N (s_L (s_bipush dX10_number_3 (by decide +kernel))) (s_L (s_callV (d' := tX10_isAt) (mc := 0) (ms := 0) ok_8 cc_X10_number_X10_isAt qw_1233 qw_1235 qw_62 dX10_number_5)))) (s_N (s_N (s_L (s_o_if_ne dX10_number_8 (by decide))) (s_L (s_iconst dX10_number_11 (by decide +kernel)))) (s_N (s_L (s_zret rfl dX10_number_12)) (s_L (s_aload_n dX10_number_13 rfl))))) (s_N (s_N (s_N (s_L (s_callV (d' := tX10_skips) (mc := 0) (ms := 0) ok_8 cc_X10_number_X10_skips qw_1229 qw_1231 qw_61 dX10_number_14)) (s_L (s_aload_n dX10_number_17 rfl))) (s_N (s_L (s_getf ok_8 (k := 10) (by decide) dX10_number_18 qw_982)) (s_L (s_istore_n dX10_number_21 rfl (by decide))))) (s_N (s_N (s_L (s_aload_n dX10_number_22 rfl)) (s_L (s_getf ok_8 (k := 12) (by decide) dX10_number_23 qw_984))) (s_N (s_L (s_iload_n dX10_number_26 rfl)) (s_L (s_iconst dX10_number_27 (by decide +kernel))))))) (s_N (s_N (s_N (s_N (s_L (s_iast dX10_number_28)) (s_L (s_aload_n dX10_number_29 rfl))) (s_N (s_L (s_bipush dX10_number_30 (by decide +kernel))) (s_L (s_bipush dX10_number_32 (by decide +kernel))))) (s_N (s_N (s_L (s_callV (d' := tX10_isAt) (mc := 0) (ms := 0) ok_8 cc_X10_number_X10_isAt qw_1233 qw_1235 qw_62 dX10_number_34)) (s_L (s_o_if_eq dX10_number_37 (by decide)))) (s_N (s_L (s_aload_n dX10_number_40 rfl)) (s_L (s_getf ok_8 (k := 10) (by decide) dX10_number_41 qw_982))))) (s_N (s_N (s_N (s_L (s_iload_n dX10_number_44 rfl)) (s_L (s_o_isub dX10_number_45))) (s_N (s_L (s_iconst dX10_number_46 (by decide +kernel))) (s_L (s_o_icmp_ge dX10_number_47 (by decide))))) (s_N (s_N (s_L (s_aload_n dX10_number_50 rfl)) (s_L (s_getf ok_8 (k := 12) (by decide) dX10_number_51 qw_984))) (s_N (s_L (s_iload_n dX10_number_54 rfl)) (s_N (s_L (s_bipush dX10_number_55 (by decide +kernel))) (s_L (s_aload_n dX10_number_57 rfl)))))))) (s_N (s_N (s_N (s_N (s_N (s_L (s_getf ok_8 (k := 12) (by decide) dX10_number_58 qw_984)) (s_L (s_iload_n dX10_number_61 rfl))) (s_N (s_L (s_iald dX10_number_62)) (s_L (s_o_imul dX10_number_63)))) (s_N (s_N (s_L (s_aload_n dX10_number_64 rfl)) (s_L (s_getf ok_8 (k := 5) (by decide) dX10_number_65 qw_977))) (s_N (s_L (s_aload_n dX10_number_68 rfl)) (s_L (s_getf ok_8 (k := 10) (by decide) dX10_number_69 qw_982))))) (s_N (s_N (s_N (s_L (s_iald dX10_number_72)) (s_L (s_o_iadd dX10_number_73))) (s_N (s_L (s_bipush dX10_number_74 (by decide +kernel))) (s_L (s_o_isub dX10_number_76)))) (s_N (s_N (s_L (s_iast dX10_number_77)) (s_L (s_aload_n dX10_number_78 rfl))) (s_N (s_L (s_o_dup dX10_number_79)) (s_L (s_getf ok_8 (k := 10) (by decide) dX10_number_80 qw_982)))))) (s_N (s_N (s_N (s_N (s_L (s_iconst dX10_number_83 (by decide +kernel))) (s_L (s_o_iadd dX10_number_84))) (s_N (s_L (s_puti ok_8 (k := 10) (by decide) rfl (Or.inl rfl) dX10_number_85 qw_982)) (s_L (s_o_goto dX10_number_88 (by decide))))) (s_N (s_N (s_L (s_aload_n dX10_number_91 rfl)) (s_L (s_getf ok_8 (k := 10) (by decide) dX10_number_92 qw_982))) (s_N (s_L (s_iload_n dX10_number_95 rfl)) (s_L (s_o_icmp_le dX10_number_96 (by decide)))))) (s_N (s_N (s_N (s_L (s_aload_n dX10_number_99 rfl)) (s_L (s_bipush dX10_number_100 (by decide +kernel)))) (s_N (s_L (s_bipush dX10_number_102 (by decide +kernel))) (s_L (s_callV (d' := tX10_isAt) (mc := 0) (ms := 0) ok_8 cc_X10_number_X10_isAt qw_1233 qw_1235 qw_62 dX10_number_104)))) (s_N (s_N (s_L (s_o_if_ne dX10_number_107 (by decide))) (s_L (s_iconst dX10_number_110 (by decide +kernel)))) (s_N (s_L (s_o_goto dX10_number_111 (by decide))) (s_N (s_L (s_iconst dX10_number_114 (by decide +kernel))) (s_L (s_zret rfl dX10_number_115))))))))
/-! PlateArmModel.readsOne -/
theorem dX10_readsOne_0 : decode cX10_readsOne 0 = .ok (.aload_n 0, 1) := by decide +kernel
theorem dX10_readsOne_1 : decode cX10_readsOne 1 = .ok (.getfield 146, 3) := by decide +kernel
theorem dX10_readsOne_4 : decode cX10_readsOne 4 = .ok (.istore_n 1, 1) := by decide +kernel
theorem dX10_readsOne_5 : decode cX10_readsOne 5 = .ok (.aload_n 0, 1) := by decide +kernel
theorem dX10_readsOne_6 : decode cX10_readsOne 6 = .ok (.bipush 97, 2) := by decide +kernel
theorem dX10_readsOne_8 : decode cX10_readsOne 8 = .ok (.bipush 122, 2) := by decide +kernel
theorem dX10_readsOne_10 : decode cX10_readsOne 10 = .ok (.invokevirtual 149, 3) := by decide +kernel
theorem dX10_readsOne_13 : decode cX10_readsOne 13 = .ok (.ifCond .eq 16, 3) := by decide +kernel
theorem dX10_readsOne_16 : decode cX10_readsOne 16 = .ok (.aload_n 0, 1) := by decide +kernel
theorem dX10_readsOne_17 : decode cX10_readsOne 17 = .ok (.dup, 1) := by decide +kernel
theorem dX10_readsOne_18 : decode cX10_readsOne 18 = .ok (.getfield 146, 3) := by decide +kernel
theorem dX10_readsOne_21 : decode cX10_readsOne 21 = .ok (.iconst 1, 1) := by decide +kernel
theorem dX10_readsOne_22 : decode cX10_readsOne 22 = .ok (.iadd, 1) := by decide +kernel
theorem dX10_readsOne_23 : decode cX10_readsOne 23 = .ok (.putfield 146, 3) := by decide +kernel
theorem dX10_readsOne_26 : decode cX10_readsOne 26 = .ok (.goto (-21), 3) := by decide +kernel
theorem dX10_readsOne_29 : decode cX10_readsOne 29 = .ok (.aload_n 0, 1) := by decide +kernel
theorem dX10_readsOne_30 : decode cX10_readsOne 30 = .ok (.aload_n 0, 1) := by decide +kernel
theorem dX10_readsOne_31 : decode cX10_readsOne 31 = .ok (.iload_n 1, 1) := by decide +kernel
theorem dX10_readsOne_32 : decode cX10_readsOne 32 = .ok (.invokevirtual 159, 3) := by decide +kernel
theorem dX10_readsOne_35 : decode cX10_readsOne 35 = .ok (.putfield 162, 3) := by decide +kernel
theorem dX10_readsOne_38 : decode cX10_readsOne 38 = .ok (.aload_n 0, 1) := by decide +kernel
theorem dX10_readsOne_39 : decode cX10_readsOne 39 = .ok (.getfield 162, 3) := by decide +kernel
theorem dX10_readsOne_42 : decode cX10_readsOne 42 = .ok (.iconst (-1), 1) := by decide +kernel
theorem dX10_readsOne_43 : decode cX10_readsOne 43 = .ok (.if_icmp .ne 10, 3) := by decide +kernel
theorem dX10_readsOne_46 : decode cX10_readsOne 46 = .ok (.aload_n 0, 1) := by decide +kernel
theorem dX10_readsOne_47 : decode cX10_readsOne 47 = .ok (.iload_n 1, 1) := by decide +kernel
theorem dX10_readsOne_48 : decode cX10_readsOne 48 = .ok (.putfield 146, 3) := by decide +kernel
theorem dX10_readsOne_51 : decode cX10_readsOne 51 = .ok (.iconst 0, 1) := by decide +kernel
theorem dX10_readsOne_52 : decode cX10_readsOne 52 = .ok (.ireturn, 1) := by decide +kernel
theorem dX10_readsOne_53 : decode cX10_readsOne 53 = .ok (.aload_n 0, 1) := by decide +kernel
theorem dX10_readsOne_54 : decode cX10_readsOne 54 = .ok (.getfield 162, 3) := by decide +kernel
theorem dX10_readsOne_57 : decode cX10_readsOne 57 = .ok (.iconst 1, 1) := by decide +kernel
theorem dX10_readsOne_58 : decode cX10_readsOne 58 = .ok (.if_icmp .ne 7, 3) := by decide +kernel
theorem dX10_readsOne_61 : decode cX10_readsOne 61 = .ok (.iconst 3, 1) := by decide +kernel
theorem dX10_readsOne_62 : decode cX10_readsOne 62 = .ok (.goto 23, 3) := by decide +kernel
theorem dX10_readsOne_65 : decode cX10_readsOne 65 = .ok (.aload_n 0, 1) := by decide +kernel
theorem dX10_readsOne_66 : decode cX10_readsOne 66 = .ok (.getfield 162, 3) := by decide +kernel
theorem dX10_readsOne_69 : decode cX10_readsOne 69 = .ok (.ifCond .eq 11, 3) := by decide +kernel
theorem dX10_readsOne_72 : decode cX10_readsOne 72 = .ok (.aload_n 0, 1) := by decide +kernel
theorem dX10_readsOne_73 : decode cX10_readsOne 73 = .ok (.getfield 162, 3) := by decide +kernel
theorem dX10_readsOne_76 : decode cX10_readsOne 76 = .ok (.iconst 3, 1) := by decide +kernel
theorem dX10_readsOne_77 : decode cX10_readsOne 77 = .ok (.if_icmp .ne 7, 3) := by decide +kernel
theorem dX10_readsOne_80 : decode cX10_readsOne 80 = .ok (.iconst 2, 1) := by decide +kernel
theorem dX10_readsOne_81 : decode cX10_readsOne 81 = .ok (.goto 4, 3) := by decide +kernel
theorem dX10_readsOne_84 : decode cX10_readsOne 84 = .ok (.iconst 1, 1) := by decide +kernel
theorem dX10_readsOne_85 : decode cX10_readsOne 85 = .ok (.istore_n 2, 1) := by decide +kernel
theorem dX10_readsOne_86 : decode cX10_readsOne 86 = .ok (.iconst 0, 1) := by decide +kernel
theorem dX10_readsOne_87 : decode cX10_readsOne 87 = .ok (.istore_n 3, 1) := by decide +kernel
theorem dX10_readsOne_88 : decode cX10_readsOne 88 = .ok (.iload_n 3, 1) := by decide +kernel
theorem dX10_readsOne_89 : decode cX10_readsOne 89 = .ok (.iload_n 2, 1) := by decide +kernel
theorem dX10_readsOne_90 : decode cX10_readsOne 90 = .ok (.if_icmp .ge 19, 3) := by decide +kernel
theorem dX10_readsOne_93 : decode cX10_readsOne 93 = .ok (.aload_n 0, 1) := by decide +kernel
theorem dX10_readsOne_94 : decode cX10_readsOne 94 = .ok (.iload_n 3, 1) := by decide +kernel
theorem dX10_readsOne_95 : decode cX10_readsOne 95 = .ok (.invokevirtual 165, 3) := by decide +kernel
theorem dX10_readsOne_98 : decode cX10_readsOne 98 = .ok (.ifCond .ne 5, 3) := by decide +kernel
theorem dX10_readsOne_101 : decode cX10_readsOne 101 = .ok (.iconst 0, 1) := by decide +kernel
theorem dX10_readsOne_102 : decode cX10_readsOne 102 = .ok (.ireturn, 1) := by decide +kernel
theorem dX10_readsOne_103 : decode cX10_readsOne 103 = .ok (.iinc 3 1, 3) := by decide +kernel
theorem dX10_readsOne_106 : decode cX10_readsOne 106 = .ok (.goto (-18), 3) := by decide +kernel
theorem dX10_readsOne_109 : decode cX10_readsOne 109 = .ok (.aload_n 0, 1) := by decide +kernel
theorem dX10_readsOne_110 : decode cX10_readsOne 110 = .ok (.invokevirtual 156, 3) := by decide +kernel
theorem dX10_readsOne_113 : decode cX10_readsOne 113 = .ok (.aload_n 0, 1) := by decide +kernel
theorem dX10_readsOne_114 : decode cX10_readsOne 114 = .ok (.bipush 59, 2) := by decide +kernel
theorem dX10_readsOne_116 : decode cX10_readsOne 116 = .ok (.bipush 59, 2) := by decide +kernel
theorem dX10_readsOne_118 : decode cX10_readsOne 118 = .ok (.invokevirtual 149, 3) := by decide +kernel
theorem dX10_readsOne_121 : decode cX10_readsOne 121 = .ok (.ifCond .ne 5, 3) := by decide +kernel
theorem dX10_readsOne_124 : decode cX10_readsOne 124 = .ok (.iconst 0, 1) := by decide +kernel
theorem dX10_readsOne_125 : decode cX10_readsOne 125 = .ok (.ireturn, 1) := by decide +kernel
theorem dX10_readsOne_126 : decode cX10_readsOne 126 = .ok (.aload_n 0, 1) := by decide +kernel
theorem dX10_readsOne_127 : decode cX10_readsOne 127 = .ok (.dup, 1) := by decide +kernel
theorem dX10_readsOne_128 : decode cX10_readsOne 128 = .ok (.getfield 146, 3) := by decide +kernel
theorem dX10_readsOne_131 : decode cX10_readsOne 131 = .ok (.iconst 1, 1) := by decide +kernel
theorem dX10_readsOne_132 : decode cX10_readsOne 132 = .ok (.iadd, 1) := by decide +kernel
theorem dX10_readsOne_133 : decode cX10_readsOne 133 = .ok (.putfield 146, 3) := by decide +kernel
theorem dX10_readsOne_136 : decode cX10_readsOne 136 = .ok (.aload_n 0, 1) := by decide +kernel
theorem dX10_readsOne_137 : decode cX10_readsOne 137 = .ok (.invokevirtual 156, 3) := by decide +kernel
theorem dX10_readsOne_140 : decode cX10_readsOne 140 = .ok (.iconst 1, 1) := by decide +kernel
theorem dX10_readsOne_141 : decode cX10_readsOne 141 = .ok (.ireturn, 1) := by decide +kernel
theorem cc_X10_readsOne_X10_isAt : CallC tX10_readsOne tX10_isAt 2 := ⟨by decide +kernel, by decide +kernel, by decide +kernel, by decide, by decide, qw_80, qw_1236⟩
theorem cc_X10_readsOne_X10_commandAt : CallC tX10_readsOne tX10_commandAt 1 := ⟨by decide +kernel, by decide +kernel, by decide +kernel, by decide, by decide, qw_80, qw_1244⟩
theorem cc_X10_readsOne_X10_number : CallC tX10_readsOne tX10_number 1 := ⟨by decide +kernel, by decide +kernel, by decide +kernel, by decide, by decide, qw_80, qw_1252⟩
theorem cc_X10_readsOne_X10_skips : CallC tX10_readsOne tX10_skips 0 := ⟨by decide +kernel, by decide +kernel, by decide +kernel, by decide, by decide, qw_80, qw_1232⟩
def kX10_readsOne : Nat → WOp := cN 72 (cN 32 (cN 16 (cN 5 (cN 1 (cN 0 (cL 0 (o_aload 1 0)) (cL 1 (o_getf 4 8 10))) (cN 4 (cL 4 (o_istore 5 1)) (cL 5 (o_aload 6 0)))) (cN 8 (cN 6 (cL 6 (o_push 8 97)) (cL 8 (o_push 10 122))) (cN 10 (cL 10 (o_callV 13 8 2 tX10_isAt 0 0)) (cN 13 (cL 13 (o_if_eq 29 16)) (cL 16 (o_aload 17 0)))))) (cN 23 (cN 18 (cN 17 (cL 17 (o_dup 18)) (cL 18 (o_getf 21 8 10))) (cN 21 (cL 21 (o_push 22 1)) (cN 22 (cL 22 (o_iadd 23)) (cL 23 (o_puti 26 8 10))))) (cN 29 (cN 26 (cL 26 (o_goto 5)) (cL 29 (o_aload 30 0))) (cN 30 (cL 30 (o_aload 31 0)) (cN 31 (cL 31 (o_iload 32 1)) (cL 32 (o_callV 35 8 1 tX10_commandAt 0 0))))))) (cN 52 (cN 43 (cN 38 (cN 35 (cL 35 (o_puti 38 8 11)) (cL 38 (o_aload 39 0))) (cN 39 (cL 39 (o_getf 42 8 11)) (cN 42 (cL 42 (o_push 43 (-1))) (cL 43 (o_icmp_ne 53 46))))) (cN 47 (cN 46 (cL 46 (o_aload 47 0)) (cL 47 (o_iload 48 1))) (cN 48 (cL 48 (o_puti 51 8 10)) (cN 51 (cL 51 (o_push 52 0)) (cL 52 (o_zret)))))) (cN 61 (cN 54 (cN 53 (cL 53 (o_aload 54 0)) (cL 54 (o_getf 57 8 11))) (cN 57 (cL 57 (o_push 58 1)) (cN 58 (cL 58 (o_icmp_ne 65 61)) (cL 61 (o_push 62 3))))) (cN 65 (cN 62 (cL 62 (o_goto 85)) (cL 65 (o_aload 66 0))) (cN 66 (cL 66 (o_getf 69 8 11)) (cN 69 (cL 69 (o_if_eq 80 72)) (cL 72 (o_aload 73 0)))))))) (cN 103 (cN 87 (cN 80 (cN 76 (cN 73 (cL 73 (o_getf 76 8 11)) (cL 76 (o_push 77 3))) (cN 77 (cL 77 (o_icmp_ne 84 80)) (cL 80 (o_push 81 2)))) (cN 84 (cN 81 (cL 81 (o_goto 85)) (cL 84 (o_push 85 1))) (cN 85 (cL 85 (o_istore 86 2)) (cN 86 (cL 86 (o_push 87 0)) (cL 87 (o_istore 88 3)))))) (cN 94 (cN 89 (cN 88 (cL 88 (o_iload 89 3)) (cL 89 (o_iload 90 2))) (cN 90 (cL 90 (o_icmp_ge 109 93)) (cN 93 (cL 93 (o_aload 94 0)) (cL 94 (o_iload 95 3))))) (cN 98 (cN 95 (cL 95 (o_callV 98 8 1 tX10_number 0 0)) (cL 98 (o_if_ne 103 101))) (cN 101 (cL 101 (o_push 102 0)) (cN 102 (cL 102 (o_zret)) (cL 103 (o_iinc 106 3 1))))))) (cN 125 (cN 114 (cN 109 (cN 106 (cL 106 (o_goto 88)) (cL 109 (o_aload 110 0))) (cN 110 (cL 110 (o_callV 113 8 0 tX10_skips 0 0)) (cN 113 (cL 113 (o_aload 114 0)) (cL 114 (o_push 116 59))))) (cN 118 (cN 116 (cL 116 (o_push 118 59)) (cL 118 (o_callV 121 8 2 tX10_isAt 0 0))) (cN 121 (cL 121 (o_if_ne 126 124)) (cN 124 (cL 124 (o_push 125 0)) (cL 125 (o_zret)))))) (cN 132 (cN 127 (cN 126 (cL 126 (o_aload 127 0)) (cL 127 (o_dup 128))) (cN 128 (cL 128 (o_getf 131 8 10)) (cN 131 (cL 131 (o_push 132 1)) (cL 132 (o_iadd 133))))) (cN 136 (cN 133 (cL 133 (o_puti 136 8 10)) (cL 136 (o_aload 137 0))) (cN 137 (cL 137 (o_callV 140 8 0 tX10_skips 0 0)) (cN 140 (cL 140 (o_push 141 1)) (cL 141 (o_zret))))))))
theorem sX10_readsOne : ∀ pc, Snd tX10_readsOne G1 pc (kX10_readsOne pc) := s_N (s_N (s_N (s_N (s_N (s_N (s_L (s_aload_n dX10_readsOne_0 rfl)) (s_L (s_getf ok_8 (k := 10) (by decide) dX10_readsOne_1 qw_982))) (s_N (s_L (s_istore_n dX10_readsOne_4 rfl (by decide))) (s_L (s_aload_n dX10_readsOne_5 rfl)))) (s_N (s_N (s_L (s_bipush dX10_readsOne_6 (by decide +kernel))) (s_L (s_bipush dX10_readsOne_8 (by decide +kernel)))) (s_N (s_L (s_callV (d' := tX10_isAt) (mc := 0) (ms := 0) ok_8 cc_X10_readsOne_X10_isAt qw_1233 qw_1235 qw_62 dX10_readsOne_10)) (s_N (s_L (s_o_if_eq dX10_readsOne_13 (by decide))) (s_L (s_aload_n dX10_readsOne_16 rfl)))))) (s_N (s_N (s_N (s_L (s_o_dup dX10_readsOne_17)) (s_L (s_getf ok_8 (k := 10) (by decide) dX10_readsOne_18 qw_982))) (s_N (s_L (s_iconst dX10_readsOne_21 (by decide +kernel))) (s_N (s_L (s_o_iadd dX10_readsOne_22)) (s_L (s_puti ok_8 (k := 10) (by decide) rfl (Or.inl rfl) dX10_readsOne_23 qw_982))))) (s_N (s_N (s_L (s_o_goto dX10_readsOne_26 (by decide))) (s_L (s_aload_n dX10_readsOne_29 rfl))) (s_N (s_L (s_aload_n dX10_readsOne_30 rfl)) (s_N (s_L (s_iload_n dX10_readsOne_31 rfl)) (s_L (s_callV (d' := tX10_commandAt) (mc := 0) (ms := 0) ok_8 cc_X10_readsOne_X10_commandAt qw_1241 qw_1243 qw_64 dX10_readsOne_32))))))) (s_N (s_N (s_N (s_N (s_L (s_puti ok_8 (k := 11) (by decide) rfl (Or.inl rfl) dX10_readsOne_35 qw_983)) (s_L (s_aload_n dX10_readsOne_38 rfl))) (s_N (s_L (s_getf ok_8 (k := 11) (by decide) dX10_readsOne_39 qw_983)) (s_N (s_L (s_iconst dX10_readsOne_42 (by decide +kernel))) (s_L (s_o_icmp_ne dX10_readsOne_43 (by decide)))))) (s_N (s_N (s_L (s_aload_n dX10_readsOne_46 rfl)) (s_L (s_iload_n dX10_readsOne_47 rfl))) (s_N (s_L (s_puti ok_8 (k := 10) (by decide) rfl (Or.inl rfl) dX10_readsOne_48 qw_982)) (s_N (s_L (s_iconst dX10_readsOne_51 (by decide +kernel))) (s_L (s_zret rfl dX10_readsOne_52)))))) (s_N (s_N (s_N (s_L (s_aload_n dX10_readsOne_53 rfl)) (s_L (s_getf ok_8 (k := 11) (by decide) dX10_readsOne_54 qw_983))) (s_N (s_L (s_iconst dX10_readsOne_57 (by decide +kernel))) (s_N (s_L (s_o_icmp_ne dX10_readsOne_58 (by decide))) (s_L (s_iconst dX10_readsOne_61 (by decide +kernel)))))) (s_N (s_N (s_L (s_o_goto dX10_readsOne_62 (by decide))) (s_L (s_aload_n dX10_readsOne_65 rfl))) (s_N (s_L (s_getf ok_8 (k := 11) (by decide) dX10_readsOne_66 qw_983)) (s_N (s_L (s_o_if_eq dX10_readsOne_69 (by decide))) (s_L (s_aload_n dX10_readsOne_72 rfl)))))))) (s_N (s_N (s_N (s_N (s_N (s_L (s_getf ok_8 (k := 11) (by decide) dX10_readsOne_73 qw_983)) (s_L (s_iconst dX10_readsOne_76 (by decide +kernel)))) (s_N (s_L (s_o_icmp_ne dX10_readsOne_77 (by decide))) (s_L (s_iconst dX10_readsOne_80 (by decide +kernel))))) (s_N (s_N (s_L (s_o_goto dX10_readsOne_81 (by decide))) (s_L (s_iconst dX10_readsOne_84 (by decide +kernel)))) (s_N (s_L (s_istore_n dX10_readsOne_85 rfl (by decide))) (s_N (s_L (s_iconst dX10_readsOne_86 (by decide +kernel))) (s_L (s_istore_n dX10_readsOne_87 rfl (by decide))))))) (s_N (s_N (s_N (s_L (s_iload_n dX10_readsOne_88 rfl)) (s_L (s_iload_n dX10_readsOne_89 rfl))) (s_N (s_L (s_o_icmp_ge dX10_readsOne_90 (by decide))) (s_N (s_L (s_aload_n dX10_readsOne_93 rfl)) (s_L (s_iload_n dX10_readsOne_94 rfl))))) (s_N (s_N (s_L (s_callV (d' := tX10_number) (mc := 0) (ms := 0) ok_8 cc_X10_readsOne_X10_number qw_1249 qw_1251 qw_66 dX10_readsOne_95)) (s_L (s_o_if_ne dX10_readsOne_98 (by decide)))) (s_N (s_L (s_iconst dX10_readsOne_101 (by decide +kernel))) (s_N (s_L (s_zret rfl dX10_readsOne_102)) (s_L (s_iinc (v := 1) dX10_readsOne_103 (by decide +kernel) (by decide)))))))) (s_N (s_N (s_N (s_N (s_L (s_o_goto dX10_readsOne_106 (by decide))) (s_L (s_aload_n dX10_readsOne_109 rfl))) (s_N (s_L (s_callV (d' := tX10_skips) (mc := 0) (ms := 0) ok_8 cc_X10_readsOne_X10_skips qw_1229 qw_1231 qw_61 dX10_readsOne_110)) (s_N (s_L (s_aload_n dX10_readsOne_113 rfl)) (s_L (s_bipush dX10_readsOne_114 (by decide +kernel)))))) (s_N (s_N (s_L (s_bipush dX10_readsOne_116 (by decide +kernel))) (s_L (s_callV (d' := tX10_isAt) (mc := 0) (ms := 0) ok_8 cc_X10_readsOne_X10_isAt qw_1233 qw_1235 qw_62 dX10_readsOne_118))) (s_N (s_L (s_o_if_ne dX10_readsOne_121 (by decide))) (s_N (s_L (s_iconst dX10_readsOne_124 (by decide +kernel))) (s_L (s_zret rfl dX10_readsOne_125)))))) (s_N (s_N (s_N (s_L (s_aload_n dX10_readsOne_126 rfl)) (s_L (s_o_dup dX10_readsOne_127))) (s_N (s_L (s_getf ok_8 (k := 10) (by decide) dX10_readsOne_128 qw_982)) (s_N (s_L (s_iconst dX10_readsOne_131 (by decide +kernel))) (s_L (s_o_iadd dX10_readsOne_132))))) (s_N (s_N (s_L (s_puti ok_8 (k := 10) (by decide) rfl (Or.inl rfl) dX10_readsOne_133 qw_982)) (s_L (s_aload_n dX10_readsOne_136 rfl))) (s_N (s_L (s_callV (d' := tX10_skips) (mc := 0) (ms := 0) ok_8 cc_X10_readsOne_X10_skips qw_1229 qw_1231 qw_61 dX10_readsOne_137)) (s_N (s_L (s_iconst dX10_readsOne_140 (by decide +kernel))) (s_L (s_zret rfl dX10_readsOne_141))))))))
/-! PlateArmModel.fault -/
theorem dX10_fault_0 : decode cX10_fault 0 = .ok (.aload_n 0, 1) := by decide +kernel
theorem dX10_fault_1 : decode cX10_fault 1 = .ok (.iconst 0, 1) := by decide +kernel
theorem dX10_fault_2 : decode cX10_fault 2 = .ok (.putfield 146, 3) := by decide +kernel
theorem dX10_fault_5 : decode cX10_fault 5 = .ok (.aload_n 0, 1) := by decide +kernel
theorem dX10_fault_6 : decode cX10_fault 6 = .ok (.invokevirtual 156, 3) := by decide +kernel
theorem dX10_fault_9 : decode cX10_fault 9 = .ok (.iconst 1, 1) := by decide +kernel
theorem dX10_fault_10 : decode cX10_fault 10 = .ok (.istore_n 1, 1) := by decide +kernel
theorem dX10_fault_11 : decode cX10_fault 11 = .ok (.iload_n 1, 1) := by decide +kernel
theorem dX10_fault_12 : decode cX10_fault 12 = .ok (.ifCond .eq 22, 3) := by decide +kernel
theorem dX10_fault_15 : decode cX10_fault 15 = .ok (.aload_n 0, 1) := by decide +kernel
theorem dX10_fault_16 : decode cX10_fault 16 = .ok (.getfield 146, 3) := by decide +kernel
theorem dX10_fault_19 : decode cX10_fault 19 = .ok (.aload_n 0, 1) := by decide +kernel
theorem dX10_fault_20 : decode cX10_fault 20 = .ok (.getfield 125, 3) := by decide +kernel
theorem dX10_fault_23 : decode cX10_fault 23 = .ok (.if_icmp .ge 11, 3) := by decide +kernel
theorem dX10_fault_26 : decode cX10_fault 26 = .ok (.aload_n 0, 1) := by decide +kernel
theorem dX10_fault_27 : decode cX10_fault 27 = .ok (.invokevirtual 168, 3) := by decide +kernel
theorem dX10_fault_30 : decode cX10_fault 30 = .ok (.istore_n 1, 1) := by decide +kernel
theorem dX10_fault_31 : decode cX10_fault 31 = .ok (.goto (-20), 3) := by decide +kernel
theorem dX10_fault_34 : decode cX10_fault 34 = .ok (.iload_n 1, 1) := by decide +kernel
theorem dX10_fault_35 : decode cX10_fault 35 = .ok (.ifCond .eq 7, 3) := by decide +kernel
theorem dX10_fault_38 : decode cX10_fault 38 = .ok (.iconst (-1), 1) := by decide +kernel
theorem dX10_fault_39 : decode cX10_fault 39 = .ok (.goto 7, 3) := by decide +kernel
theorem dX10_fault_42 : decode cX10_fault 42 = .ok (.aload_n 0, 1) := by decide +kernel
theorem dX10_fault_43 : decode cX10_fault 43 = .ok (.getfield 146, 3) := by decide +kernel
theorem dX10_fault_46 : decode cX10_fault 46 = .ok (.ireturn, 1) := by decide +kernel
theorem cc_X10_fault_X10_skips : CallC tX10_fault tX10_skips 0 := ⟨by decide +kernel, by decide +kernel, by decide +kernel, by decide, by decide, qw_80, qw_1232⟩
theorem cc_X10_fault_X10_readsOne : CallC tX10_fault tX10_readsOne 0 := ⟨by decide +kernel, by decide +kernel, by decide +kernel, by decide, by decide, qw_80, qw_1240⟩
def kX10_fault : Nat → WOp := cN 19 (cN 9 (cN 2 (cN 0 (cL 0 (o_aload 1 0)) (cN 1 (cL 1 (o_push 2 0)) (cL 2 (o_puti 5 8 10)))) (cN 5 (cL 5 (o_aload 6 0)) (cN 6 (cL 6 (o_callV 9 8 0 tX10_skips 0 0)) (cL 9 (o_push 10 1))))) (cN 12 (cN 10 (cL 10 (o_istore 11 1)) (cN 11 (cL 11 (o_iload 12 1)) (cL 12 (o_if_eq 34 15)))) (cN 15 (cL 15 (o_aload 16 0)) (cN 16 (cL 16 (o_getf 19 8 10)) (cL 19 (o_aload 20 0)))))) (cN 31 (cN 26 (cN 20 (cL 20 (o_getf 23 8 6)) (cN 23 (cL 23 (o_icmp_ge 34 26)) (cL 26 (o_aload 27 0)))) (cN 27 (cL 27 (o_callV 30 8 0 tX10_readsOne 0 0)) (cN 30 (cL 30 (o_istore 31 1)) (cL 31 (o_goto 11))))) (cN 38 (cN 34 (cL 34 (o_iload 35 1)) (cN 35 (cL 35 (o_if_eq 42 38)) (cL 38 (o_push 39 (-1))))) (cN 42 (cN 39 (cL 39 (o_goto 46)) (cL 42 (o_aload 43 0))) (cN 43 (cL 43 (o_getf 46 8 10)) (cL 46 (o_iret))))))
theorem sX10_fault : ∀ pc, Snd tX10_fault G1 pc (kX10_fault pc) := s_N (s_N (s_N (s_N (s_L (s_aload_n dX10_fault_0 rfl)) (s_N (s_L (s_iconst dX10_fault_1 (by decide +kernel))) (s_L (s_puti ok_8 (k := 10) (by decide) rfl (Or.inl rfl) dX10_fault_2 qw_982)))) (s_N (s_L (s_aload_n dX10_fault_5 rfl)) (s_N (s_L (s_callV (d' := tX10_skips) (mc := 0) (ms := 0) ok_8 cc_X10_fault_X10_skips qw_1229 qw_1231 qw_61 dX10_fault_6)) (s_L (s_iconst dX10_fault_9 (by decide +kernel)))))) (s_N (s_N (s_L (s_istore_n dX10_fault_10 rfl (by decide))) (s_N (s_L (s_iload_n dX10_fault_11 rfl)) (s_L (s_o_if_eq dX10_fault_12 (by decide))))) (s_N (s_L (s_aload_n dX10_fault_15 rfl)) (s_N (s_L (s_getf ok_8 (k := 10) (by decide) dX10_fault_16 qw_982)) (s_L (s_aload_n dX10_fault_19 rfl)))))) (s_N (s_N (s_N (s_L (s_getf ok_8 (k := 6) (by decide) dX10_fault_20 qw_978)) (s_N (s_L (s_o_icmp_ge dX10_fault_23 (by decide))) (s_L (s_aload_n dX10_fault_26 rfl)))) (s_N (s_L (s_callV (d' := tX10_readsOne) (mc := 0) (ms := 0) ok_8 cc_X10_fault_X10_readsOne qw_1237 qw_1239 qw_63 dX10_fault_27)) (s_N (s_L (s_istore_n dX10_fault_30 rfl (by decide))) (s_L (s_o_goto dX10_fault_31 (by decide)))))) (s_N (s_N (s_L (s_iload_n dX10_fault_34 rfl)) (s_N (s_L (s_o_if_eq dX10_fault_35 (by decide))) (s_L (s_iconst dX10_fault_38 (by decide +kernel))))) (s_N (s_N (s_L (s_o_goto dX10_fault_39 (by decide))) (s_L (s_aload_n dX10_fault_42 rfl))) (s_N (s_L (s_getf ok_8 (k := 10) (by decide) dX10_fault_43 qw_982)) (s_L (s_iret rfl dX10_fault_46))))))
/-! PlateArmModel.does -/
theorem dX10_does_0 : decode cX10_does 0 = .ok (.aload_n 0, 1) := by decide +kernel
theorem dX10_does_1 : decode cX10_does 1 = .ok (.getfield 162, 3) := by decide +kernel
theorem dX10_does_4 : decode cX10_does 4 = .ok (.tableswitch 112 0 3 #[32, 52, 78, 92], 32) := by decide +kernel
theorem dX10_does_36 : decode cX10_does 36 = .ok (.aload_n 0, 1) := by decide +kernel
theorem dX10_does_37 : decode cX10_does 37 = .ok (.aload_n 0, 1) := by decide +kernel
theorem dX10_does_38 : decode cX10_does 38 = .ok (.getfield 26, 3) := by decide +kernel
theorem dX10_does_41 : decode cX10_does 41 = .ok (.iconst 0, 1) := by decide +kernel
theorem dX10_does_42 : decode cX10_does 42 = .ok (.iaload, 1) := by decide +kernel
theorem dX10_does_43 : decode cX10_does 43 = .ok (.aload_n 0, 1) := by decide +kernel
theorem dX10_does_44 : decode cX10_does 44 = .ok (.getfield 26, 3) := by decide +kernel
theorem dX10_does_47 : decode cX10_does 47 = .ok (.iconst 1, 1) := by decide +kernel
theorem dX10_does_48 : decode cX10_does 48 = .ok (.iaload, 1) := by decide +kernel
theorem dX10_does_49 : decode cX10_does 49 = .ok (.invokevirtual 172, 3) := by decide +kernel
theorem dX10_does_52 : decode cX10_does 52 = .ok (.pop, 1) := by decide +kernel
theorem dX10_does_53 : decode cX10_does 53 = .ok (.goto 74, 3) := by decide +kernel
theorem dX10_does_56 : decode cX10_does 56 = .ok (.aload_n 0, 1) := by decide +kernel
theorem dX10_does_57 : decode cX10_does 57 = .ok (.aload_n 0, 1) := by decide +kernel
theorem dX10_does_58 : decode cX10_does 58 = .ok (.getfield 26, 3) := by decide +kernel
theorem dX10_does_61 : decode cX10_does 61 = .ok (.iconst 0, 1) := by decide +kernel
theorem dX10_does_62 : decode cX10_does 62 = .ok (.iaload, 1) := by decide +kernel
theorem dX10_does_63 : decode cX10_does 63 = .ok (.aload_n 0, 1) := by decide +kernel
theorem dX10_does_64 : decode cX10_does 64 = .ok (.getfield 26, 3) := by decide +kernel
theorem dX10_does_67 : decode cX10_does 67 = .ok (.iconst 1, 1) := by decide +kernel
theorem dX10_does_68 : decode cX10_does 68 = .ok (.iaload, 1) := by decide +kernel
theorem dX10_does_69 : decode cX10_does 69 = .ok (.aload_n 0, 1) := by decide +kernel
theorem dX10_does_70 : decode cX10_does 70 = .ok (.getfield 26, 3) := by decide +kernel
theorem dX10_does_73 : decode cX10_does 73 = .ok (.iconst 2, 1) := by decide +kernel
theorem dX10_does_74 : decode cX10_does 74 = .ok (.iaload, 1) := by decide +kernel
theorem dX10_does_75 : decode cX10_does 75 = .ok (.invokevirtual 175, 3) := by decide +kernel
theorem dX10_does_78 : decode cX10_does 78 = .ok (.pop, 1) := by decide +kernel
theorem dX10_does_79 : decode cX10_does 79 = .ok (.goto 48, 3) := by decide +kernel
theorem dX10_does_82 : decode cX10_does 82 = .ok (.aload_n 0, 1) := by decide +kernel
theorem dX10_does_83 : decode cX10_does 83 = .ok (.aload_n 0, 1) := by decide +kernel
theorem dX10_does_84 : decode cX10_does 84 = .ok (.getfield 26, 3) := by decide +kernel
theorem dX10_does_87 : decode cX10_does 87 = .ok (.iconst 0, 1) := by decide +kernel
theorem dX10_does_88 : decode cX10_does 88 = .ok (.iaload, 1) := by decide +kernel
theorem dX10_does_89 : decode cX10_does 89 = .ok (.invokevirtual 179, 3) := by decide +kernel
theorem dX10_does_92 : decode cX10_does 92 = .ok (.pop, 1) := by decide +kernel
theorem dX10_does_93 : decode cX10_does 93 = .ok (.goto 34, 3) := by decide +kernel
theorem dX10_does_96 : decode cX10_does 96 = .ok (.aload_n 0, 1) := by decide +kernel
theorem dX10_does_97 : decode cX10_does 97 = .ok (.aload_n 0, 1) := by decide +kernel
theorem dX10_does_98 : decode cX10_does 98 = .ok (.getfield 26, 3) := by decide +kernel
theorem dX10_does_101 : decode cX10_does 101 = .ok (.iconst 0, 1) := by decide +kernel
theorem dX10_does_102 : decode cX10_does 102 = .ok (.iaload, 1) := by decide +kernel
theorem dX10_does_103 : decode cX10_does 103 = .ok (.aload_n 0, 1) := by decide +kernel
theorem dX10_does_104 : decode cX10_does 104 = .ok (.getfield 26, 3) := by decide +kernel
theorem dX10_does_107 : decode cX10_does 107 = .ok (.iconst 1, 1) := by decide +kernel
theorem dX10_does_108 : decode cX10_does 108 = .ok (.iaload, 1) := by decide +kernel
theorem dX10_does_109 : decode cX10_does 109 = .ok (.invokevirtual 182, 3) := by decide +kernel
theorem dX10_does_112 : decode cX10_does 112 = .ok (.pop, 1) := by decide +kernel
theorem dX10_does_113 : decode cX10_does 113 = .ok (.goto 14, 3) := by decide +kernel
theorem dX10_does_116 : decode cX10_does 116 = .ok (.aload_n 0, 1) := by decide +kernel
theorem dX10_does_117 : decode cX10_does 117 = .ok (.aload_n 0, 1) := by decide +kernel
theorem dX10_does_118 : decode cX10_does 118 = .ok (.getfield 26, 3) := by decide +kernel
theorem dX10_does_121 : decode cX10_does 121 = .ok (.iconst 0, 1) := by decide +kernel
theorem dX10_does_122 : decode cX10_does 122 = .ok (.iaload, 1) := by decide +kernel
theorem dX10_does_123 : decode cX10_does 123 = .ok (.invokevirtual 185, 3) := by decide +kernel
theorem dX10_does_126 : decode cX10_does 126 = .ok (.pop, 1) := by decide +kernel
theorem dX10_does_127 : decode cX10_does 127 = .ok (.return_, 1) := by decide +kernel
theorem cc_X10_does_X10_plate : CallC tX10_does tX10_plate 2 := ⟨by decide +kernel, by decide +kernel, by decide +kernel, by decide, by decide, qw_80, qw_1022⟩
theorem cc_X10_does_X10_request : CallC tX10_does tX10_request 3 := ⟨by decide +kernel, by decide +kernel, by decide +kernel, by decide, by decide, qw_80, qw_1037⟩
theorem cc_X10_does_X10_cancel : CallC tX10_does tX10_cancel 1 := ⟨by decide +kernel, by decide +kernel, by decide +kernel, by decide, by decide, qw_80, qw_1041⟩
theorem cc_X10_does_X10_set : CallC tX10_does tX10_set 2 := ⟨by decide +kernel, by decide +kernel, by decide +kernel, by decide, by decide, qw_80, qw_1057⟩
theorem cc_X10_does_X10_pass : CallC tX10_does tX10_pass 1 := ⟨by decide +kernel, by decide +kernel, by decide +kernel, by decide, by decide, qw_80, qw_1061⟩
def kX10_does : Nat → WOp := cN 75 (cN 52 (cN 41 (cN 4 (cN 0 (cL 0 (o_aload 1 0)) (cN 1 (cL 1 (o_getf 4 8 11)) (cL 4 (o_tsw 0 [36, 56, 82, 96] 116)))) (cN 37 (cN 36 (cL 36 (o_aload 37 0)) (cL 37 (o_aload 38 0))) (cN 38 (cL 38 (o_getf 41 8 12)) (cL 41 (o_push 42 0))))) (cN 44 (cN 42 (cL 42 (o_iald 43)) (cN 43 (cL 43 (o_aload 44 0)) (cL 44 (o_getf 47 8 12)))) (cN 48 (cN 47 (cL 47 (o_push 48 1)) (cL 48 (o_iald 49))) (cN 49 (cL 49 (o_callV 52 8 2 tX10_plate 0 0)) (cL 52 (o_pop 53)))))) (cN 63 (cN 57 (cN 53 (cL 53 (o_goto 127)) (cN 56 (cL 56 (o_aload 57 0)) (cL 57 (o_aload 58 0)))) (cN 61 (cN 58 (cL 58 (o_getf 61 8 12)) (cL 61 (o_push 62 0))) (cN 62 (cL 62 (o_iald 63)) (cL 63 (o_aload 64 0))))) (cN 69 (cN 67 (cN 64 (cL 64 (o_getf 67 8 12)) (cL 67 (o_push 68 1))) (cN 68 (cL 68 (o_iald 69)) (cL 69 (o_aload 70 0)))) (cN 73 (cN 70 (cL 70 (o_getf 73 8 12)) (cL 73 (o_push 74 2))) (cN 74 (cL 74 (o_iald 75)) (cL 75 (o_callV 78 8 3 tX10_request 0 0))))))) (cN 102 (cN 88 (cN 82 (cN 78 (cL 78 (o_pop 79)) (cN 79 (cL 79 (o_goto 127)) (cL 82 (o_aload 83 0)))) (cN 84 (cN 83 (cL 83 (o_aload 84 0)) (cL 84 (o_getf 87 8 12))) (cN 87 (cL 87 (o_push 88 0)) (cL 88 (o_iald 89))))) (cN 96 (cN 92 (cN 89 (cL 89 (o_callV 92 8 1 tX10_cancel 0 0)) (cL 92 (o_pop 93))) (cN 93 (cL 93 (o_goto 127)) (cL 96 (o_aload 97 0)))) (cN 98 (cN 97 (cL 97 (o_aload 98 0)) (cL 98 (o_getf 101 8 12))) (cN 101 (cL 101 (o_push 102 0)) (cL 102 (o_iald 103)))))) (cN 113 (cN 107 (cN 103 (cL 103 (o_aload 104 0)) (cN 104 (cL 104 (o_getf 107 8 12)) (cL 107 (o_push 108 1)))) (cN 109 (cN 108 (cL 108 (o_iald 109)) (cL 109 (o_callV 112 8 2 tX10_set 0 0))) (cN 112 (cL 112 (o_pop 113)) (cL 113 (o_goto 127))))) (cN 121 (cN 117 (cN 116 (cL 116 (o_aload 117 0)) (cL 117 (o_aload 118 0))) (cN 118 (cL 118 (o_getf 121 8 12)) (cL 121 (o_push 122 0)))) (cN 123 (cN 122 (cL 122 (o_iald 123)) (cL 123 (o_callV 126 8 1 tX10_pass 0 0))) (cN 126 (cL 126 (o_pop 127)) (cL 127 (o_vret)))))))
theorem sX10_does : ∀ pc, Snd tX10_does G1 pc (kX10_does pc) := s_N (s_N (s_N (s_N (s_N (s_L (s_aload_n dX10_does_0 rfl)) (s_N (s_L (s_getf ok_8 (k := 11) (by decide) dX10_does_1 qw_983)) (s_L (s_tsw dX10_does_4 (by decide +kernel) (by decide) (by decide) (by decide) (by intro k t h; match k, h with | 0, h => exact ⟨32, rfl, by cases h; decide⟩ | 1, h => exact ⟨52, rfl, by cases h; decide⟩ | 2, h => exact ⟨78, rfl, by cases h; decide⟩ | 3, h => exact ⟨92, rfl, by cases h; decide⟩ | k + 4, h => simp at h) (by decide))))) (s_N (s_N (s_L (s_aload_n dX10_does_36 rfl)) (s_L (s_aload_n dX10_does_37 rfl))) (s_N (s_L (s_getf ok_8 (k := 12) (by decide) dX10_does_38 qw_984)) (s_L (s_iconst dX10_does_41 (by decide +kernel)))))) (s_N (s_N (s_L (s_iald dX10_does_42)) (s_N (s_L (s_aload_n dX10_does_43 rfl)) (s_L (s_getf ok_8 (k := 12) (by decide) dX10_does_44 qw_984)))) (s_N (s_N (s_L (s_iconst dX10_does_47 (by decide +kernel))) (s_L (s_iald dX10_does_48))) (s_N (s_L (s_callV (d' := tX10_plate) (mc := 0) (ms := 0) ok_8 cc_X10_does_X10_plate qw_1257 qw_1020 qw_1021 dX10_does_49)) (s_L (s_o_pop dX10_does_52)))))) (s_N (s_N (s_N (s_L (s_o_goto dX10_does_53 (by decide))) (s_N (s_L (s_aload_n dX10_does_56 rfl)) (s_L (s_aload_n dX10_does_57 rfl)))) (s_N (s_N (s_L (s_getf ok_8 (k := 12) (by decide) dX10_does_58 qw_984)) (s_L (s_iconst dX10_does_61 (by decide +kernel)))) (s_N (s_L (s_iald dX10_does_62)) (s_L (s_aload_n dX10_does_63 rfl))))) (s_N (s_N (s_N (s_L (s_getf ok_8 (k := 12) (by decide) dX10_does_64 qw_984)) (s_L (s_iconst dX10_does_67 (by decide +kernel)))) (s_N (s_L (s_iald dX10_does_68)) (s_L (s_aload_n dX10_does_69 rfl)))) (s_N (s_N (s_L (s_getf ok_8 (k := 12) (by decide) dX10_does_70 qw_984)) (s_L (s_iconst dX10_does_73 (by decide +kernel)))) (s_N (s_L (s_iald dX10_does_74)) (s_L (s_callV (d' := tX10_request) (mc := 0) (ms := 0) ok_8 cc_X10_does_X10_request qw_1258 qw_1035 qw_1036 dX10_does_75))))))) (s_N (s_N (s_N (s_N (s_L (s_o_pop dX10_does_78)) (s_N (s_L (s_o_goto dX10_does_79 (by decide))) (s_L (s_aload_n dX10_does_82 rfl)))) (s_N (s_N (s_L (s_aload_n dX10_does_83 rfl)) (s_L (s_getf ok_8 (k := 12) (by decide) dX10_does_84 qw_984))) (s_N (s_L (s_iconst dX10_does_87 (by decide +kernel))) (s_L (s_iald dX10_does_88))))) (s_N (s_N (s_N (s_L (s_callV (d' := tX10_cancel) (mc := 0) (ms := 0) ok_8 cc_X10_does_X10_cancel qw_1259 qw_1039 qw_1040 dX10_does_89)) (s_L (s_o_pop dX10_does_92))) (s_N (s_L (s_o_goto dX10_does_93 (by decide))) (s_L (s_aload_n dX10_does_96 rfl)))) (s_N (s_N (s_L (s_aload_n dX10_does_97 rfl)) (s_L (s_getf ok_8 (k := 12) (by decide) dX10_does_98 qw_984))) (s_N (s_L (s_iconst dX10_does_101 (by decide +kernel))) (s_L (s_iald dX10_does_102)))))) (s_N (s_N (s_N (s_L (s_aload_n dX10_does_103 rfl)) (s_N (s_L (s_getf ok_8 (k := 12) (by decide) dX10_does_104 qw_984)) (s_L (s_iconst dX10_does_107 (by decide +kernel))))) (s_N (s_N (s_L (s_iald dX10_does_108)) (s_L (s_callV (d' := tX10_set) (mc := 0) (ms := 0) ok_8 cc_X10_does_X10_set qw_1260 qw_1055 qw_1056 dX10_does_109))) (s_N (s_L (s_o_pop dX10_does_112)) (s_L (s_o_goto dX10_does_113 (by decide)))))) (s_N (s_N (s_N (s_L (s_aload_n dX10_does_116 rfl)) (s_L (s_aload_n dX10_does_117 rfl))) (s_N (s_L (s_getf ok_8 (k := 12) (by decide) dX10_does_118 qw_984)) (s_L (s_iconst dX10_does_121 (by decide +kernel))))) (s_N (s_N (s_L (s_iald dX10_does_122)) (s_L (s_callV (d' := tX10_pass) (mc := 0) (ms := 0) ok_8 cc_X10_does_X10_pass qw_1261 qw_1059 qw_1060 dX10_does_123))) (s_N (s_L (s_o_pop dX10_does_126)) (s_L (s_vret rfl dX10_does_127)))))))
/-! PlateArmModel.runCommands -/
theorem dX10_runCommands_0 : decode cX10_runCommands 0 = .ok (.aload_n 0, 1) := by decide +kernel
theorem dX10_runCommands_1 : decode cX10_runCommands 1 = .ok (.iconst 0, 1) := by decide +kernel
theorem dX10_runCommands_2 : decode cX10_runCommands 2 = .ok (.putfield 29, 3) := by decide +kernel
theorem dX10_runCommands_5 : decode cX10_runCommands 5 = .ok (.aload_n 0, 1) := by decide +kernel
theorem dX10_runCommands_6 : decode cX10_runCommands 6 = .ok (.invokevirtual 188, 3) := by decide +kernel
theorem dX10_runCommands_9 : decode cX10_runCommands 9 = .ok (.istore_n 1, 1) := by decide +kernel
theorem dX10_runCommands_10 : decode cX10_runCommands 10 = .ok (.iload_n 1, 1) := by decide +kernel
theorem dX10_runCommands_11 : decode cX10_runCommands 11 = .ok (.iconst (-1), 1) := by decide +kernel
theorem dX10_runCommands_12 : decode cX10_runCommands 12 = .ok (.if_icmp .eq 8, 3) := by decide +kernel
theorem dX10_runCommands_15 : decode cX10_runCommands 15 = .ok (.bipush (-10), 2) := by decide +kernel
theorem dX10_runCommands_17 : decode cX10_runCommands 17 = .ok (.iload_n 1, 1) := by decide +kernel
theorem dX10_runCommands_18 : decode cX10_runCommands 18 = .ok (.isub, 1) := by decide +kernel
theorem dX10_runCommands_19 : decode cX10_runCommands 19 = .ok (.ireturn, 1) := by decide +kernel
theorem dX10_runCommands_20 : decode cX10_runCommands 20 = .ok (.aload_n 0, 1) := by decide +kernel
theorem dX10_runCommands_21 : decode cX10_runCommands 21 = .ok (.invokevirtual 98, 3) := by decide +kernel
theorem dX10_runCommands_24 : decode cX10_runCommands 24 = .ok (.aload_n 0, 1) := by decide +kernel
theorem dX10_runCommands_25 : decode cX10_runCommands 25 = .ok (.iconst 1, 1) := by decide +kernel
theorem dX10_runCommands_26 : decode cX10_runCommands 26 = .ok (.putfield 32, 3) := by decide +kernel
theorem dX10_runCommands_29 : decode cX10_runCommands 29 = .ok (.iconst 0, 1) := by decide +kernel
theorem dX10_runCommands_30 : decode cX10_runCommands 30 = .ok (.istore_n 2, 1) := by decide +kernel
theorem dX10_runCommands_31 : decode cX10_runCommands 31 = .ok (.iconst 1, 1) := by decide +kernel
theorem dX10_runCommands_32 : decode cX10_runCommands 32 = .ok (.istore_n 3, 1) := by decide +kernel
theorem dX10_runCommands_33 : decode cX10_runCommands 33 = .ok (.aload_n 0, 1) := by decide +kernel
theorem dX10_runCommands_34 : decode cX10_runCommands 34 = .ok (.iconst 0, 1) := by decide +kernel
theorem dX10_runCommands_35 : decode cX10_runCommands 35 = .ok (.putfield 146, 3) := by decide +kernel
theorem dX10_runCommands_38 : decode cX10_runCommands 38 = .ok (.aload_n 0, 1) := by decide +kernel
theorem dX10_runCommands_39 : decode cX10_runCommands 39 = .ok (.invokevirtual 156, 3) := by decide +kernel
theorem dX10_runCommands_42 : decode cX10_runCommands 42 = .ok (.iload_n 3, 1) := by decide +kernel
theorem dX10_runCommands_43 : decode cX10_runCommands 43 = .ok (.ifCond .eq 55, 3) := by decide +kernel
theorem dX10_runCommands_46 : decode cX10_runCommands 46 = .ok (.aload_n 0, 1) := by decide +kernel
theorem dX10_runCommands_47 : decode cX10_runCommands 47 = .ok (.getfield 146, 3) := by decide +kernel
theorem dX10_runCommands_50 : decode cX10_runCommands 50 = .ok (.aload_n 0, 1) := by decide +kernel
theorem dX10_runCommands_51 : decode cX10_runCommands 51 = .ok (.getfield 125, 3) := by decide +kernel
theorem dX10_runCommands_54 : decode cX10_runCommands 54 = .ok (.if_icmp .ge 44, 3) := by decide +kernel
theorem dX10_runCommands_57 : decode cX10_runCommands 57 = .ok (.aload_n 0, 1) := by decide +kernel
theorem dX10_runCommands_58 : decode cX10_runCommands 58 = .ok (.invokevirtual 168, 3) := by decide +kernel
theorem dX10_runCommands_61 : decode cX10_runCommands 61 = .ok (.istore_n 3, 1) := by decide +kernel
theorem dX10_runCommands_62 : decode cX10_runCommands 62 = .ok (.aload_n 0, 1) := by decide +kernel
theorem dX10_runCommands_63 : decode cX10_runCommands 63 = .ok (.invokevirtual 191, 3) := by decide +kernel
theorem dX10_runCommands_66 : decode cX10_runCommands 66 = .ok (.iload_n 3, 1) := by decide +kernel
theorem dX10_runCommands_67 : decode cX10_runCommands 67 = .ok (.ifCond .eq 14, 3) := by decide +kernel
theorem dX10_runCommands_70 : decode cX10_runCommands 70 = .ok (.aload_n 0, 1) := by decide +kernel
theorem dX10_runCommands_71 : decode cX10_runCommands 71 = .ok (.getfield 29, 3) := by decide +kernel
theorem dX10_runCommands_74 : decode cX10_runCommands 74 = .ok (.ifCond .ne 7, 3) := by decide +kernel
theorem dX10_runCommands_77 : decode cX10_runCommands 77 = .ok (.iconst 1, 1) := by decide +kernel
theorem dX10_runCommands_78 : decode cX10_runCommands 78 = .ok (.goto 4, 3) := by decide +kernel
theorem dX10_runCommands_81 : decode cX10_runCommands 81 = .ok (.iconst 0, 1) := by decide +kernel
theorem dX10_runCommands_82 : decode cX10_runCommands 82 = .ok (.istore_n 3, 1) := by decide +kernel
theorem dX10_runCommands_83 : decode cX10_runCommands 83 = .ok (.iload_n 2, 1) := by decide +kernel
theorem dX10_runCommands_84 : decode cX10_runCommands 84 = .ok (.iload_n 3, 1) := by decide +kernel
theorem dX10_runCommands_85 : decode cX10_runCommands 85 = .ok (.ifCond .eq 7, 3) := by decide +kernel
theorem dX10_runCommands_88 : decode cX10_runCommands 88 = .ok (.iconst 1, 1) := by decide +kernel
theorem dX10_runCommands_89 : decode cX10_runCommands 89 = .ok (.goto 4, 3) := by decide +kernel
theorem dX10_runCommands_92 : decode cX10_runCommands 92 = .ok (.iconst 0, 1) := by decide +kernel
theorem dX10_runCommands_93 : decode cX10_runCommands 93 = .ok (.iadd, 1) := by decide +kernel
theorem dX10_runCommands_94 : decode cX10_runCommands 94 = .ok (.istore_n 2, 1) := by decide +kernel
theorem dX10_runCommands_95 : decode cX10_runCommands 95 = .ok (.goto (-53), 3) := by decide +kernel
theorem dX10_runCommands_98 : decode cX10_runCommands 98 = .ok (.aload_n 0, 1) := by decide +kernel
theorem dX10_runCommands_99 : decode cX10_runCommands 99 = .ok (.iconst 0, 1) := by decide +kernel
theorem dX10_runCommands_100 : decode cX10_runCommands 100 = .ok (.putfield 32, 3) := by decide +kernel
theorem dX10_runCommands_103 : decode cX10_runCommands 103 = .ok (.aload_n 0, 1) := by decide +kernel
theorem dX10_runCommands_104 : decode cX10_runCommands 104 = .ok (.iconst 0, 1) := by decide +kernel
theorem dX10_runCommands_105 : decode cX10_runCommands 105 = .ok (.putfield 29, 3) := by decide +kernel
theorem dX10_runCommands_108 : decode cX10_runCommands 108 = .ok (.iload_n 2, 1) := by decide +kernel
theorem dX10_runCommands_109 : decode cX10_runCommands 109 = .ok (.ireturn, 1) := by decide +kernel
theorem cc_X10_runCommands_X10_fault : CallC tX10_runCommands tX10_fault 0 := ⟨by decide +kernel, by decide +kernel, by decide +kernel, by decide, by decide, qw_80, qw_1228⟩
theorem cc_X10_runCommands_X10_saves : CallC tX10_runCommands tX10_saves 0 := ⟨by decide +kernel, by decide +kernel, by decide +kernel, by decide, by decide, qw_80, qw_1033⟩
theorem cc_X10_runCommands_X10_skips : CallC tX10_runCommands tX10_skips 0 := ⟨by decide +kernel, by decide +kernel, by decide +kernel, by decide, by decide, qw_80, qw_1232⟩
theorem cc_X10_runCommands_X10_readsOne : CallC tX10_runCommands tX10_readsOne 0 := ⟨by decide +kernel, by decide +kernel, by decide +kernel, by decide, by decide, qw_80, qw_1240⟩
theorem cc_X10_runCommands_X10_does : CallC tX10_runCommands tX10_does 0 := ⟨by decide +kernel, by decide +kernel, by decide +kernel, by decide, by decide, qw_80, qw_1256⟩
def kX10_runCommands : Nat → WOp := cN 50 (cN 24 (cN 11 (cN 5 (cN 1 (cN 0 (cL 0 (o_aload 1 0)) (cL 1 (o_push 2 0))) (cN 2 (cL 2 (o_puti 5 8 7)) (cL 5 (o_aload 6 0)))) (cN 9 (cN 6 (cL 6 (o_callV 9 8 0 tX10_fault 0 0)) (cL 9 (o_istore 10 1))) (cN 10 (cL 10 (o_iload 11 1)) (cL 11 (o_push 12 (-1)))))) (cN 18 (cN 15 (cN 12 (cL 12 (o_icmp_eq 20 15)) (cL 15 (o_push 17 (-10)))) (cN 17 (cL 17 (o_iload 18 1)) (cL 18 (o_isub 19)))) (cN 20 (cN 19 (cL 19 (o_iret)) (cL 20 (o_aload 21 0))) (cN 21 (cL 21 (o_callV 24 8 0 tX10_saves 0 0)) (cL 24 (o_aload 25 0)))))) (cN 34 (cN 30 (cN 26 (cN 25 (cL 25 (o_push 26 1)) (cL 26 (o_putf 29 8 4 (.boolean)))) (cN 29 (cL 29 (o_push 30 0)) (cL 30 (o_istore 31 2)))) (cN 32 (cN 31 (cL 31 (o_push 32 1)) (cL 32 (o_istore 33 3))) (cN 33 (cL 33 (o_aload 34 0)) (cL 34 (o_push 35 0))))) (cN 42 (cN 38 (cN 35 (cL 35 (o_puti 38 8 10)) (cL 38 (o_aload 39 0))) (cN 39 (cL 39 (o_callV 42 8 0 tX10_skips 0 0)) (cL 42 (o_iload 43 3)))) (cN 46 (cN 43 (cL 43 (o_if_eq 98 46)) (cL 46 (o_aload 47 0))) (cN 47 (cL 47 (o_getf 50 8 10)) (cL 50 (o_aload 51 0))))))) (cN 82 (cN 66 (cN 58 (cN 54 (cN 51 (cL 51 (o_getf 54 8 6)) (cL 54 (o_icmp_ge 98 57))) (cN 57 (cL 57 (o_aload 58 0)) (cL 58 (o_callV 61 8 0 tX10_readsOne 0 0)))) (cN 62 (cN 61 (cL 61 (o_istore 62 3)) (cL 62 (o_aload 63 0))) (cN 63 (cL 63 (o_callV 66 8 0 tX10_does 0 0)) (cL 66 (o_iload 67 3))))) (cN 74 (cN 70 (cN 67 (cL 67 (o_if_eq 81 70)) (cL 70 (o_aload 71 0))) (cN 71 (cL 71 (o_getf 74 8 7)) (cL 74 (o_if_ne 81 77)))) (cN 78 (cN 77 (cL 77 (o_push 78 1)) (cL 78 (o_goto 82))) (cN 81 (cL 81 (o_push 82 0)) (cL 82 (o_istore 83 3)))))) (cN 94 (cN 88 (cN 84 (cN 83 (cL 83 (o_iload 84 2)) (cL 84 (o_iload 85 3))) (cN 85 (cL 85 (o_if_eq 92 88)) (cL 88 (o_push 89 1)))) (cN 92 (cN 89 (cL 89 (o_goto 93)) (cL 92 (o_push 93 0))) (cN 93 (cL 93 (o_iadd 94)) (cL 94 (o_istore 95 2))))) (cN 100 (cN 98 (cN 95 (cL 95 (o_goto 42)) (cL 98 (o_aload 99 0))) (cN 99 (cL 99 (o_push 100 0)) (cL 100 (o_putf 103 8 4 (.boolean))))) (cN 104 (cN 103 (cL 103 (o_aload 104 0)) (cL 104 (o_push 105 0))) (cN 105 (cL 105 (o_puti 108 8 7)) (cN 108 (cL 108 (o_iload 109 2)) (cL 109 (o_iret))))))))
theorem sX10_runCommands : ∀ pc, Snd tX10_runCommands G1 pc (kX10_runCommands pc) := s_N (s_N (s_N (s_N (s_N (s_N (s_L (s_aload_n dX10_runCommands_0 rfl)) (s_L (s_iconst dX10_runCommands_1 (by decide +kernel)))) (s_N (s_L (s_puti ok_8 (k := 7) (by decide) rfl (Or.inl rfl) dX10_runCommands_2 qw_979)) (s_L (s_aload_n dX10_runCommands_5 rfl)))) (s_N (s_N (s_L (s_callV (d' := tX10_fault) (mc := 0) (ms := 0) ok_8 cc_X10_runCommands_X10_fault qw_1225 qw_1227 qw_60 dX10_runCommands_6)) (s_L (s_istore_n dX10_runCommands_9 rfl (by decide)))) (s_N (s_L (s_iload_n dX10_runCommands_10 rfl)) (s_L (s_iconst dX10_runCommands_11 (by decide +kernel)))))) (s_N (s_N (s_N (s_L (s_o_icmp_eq dX10_runCommands_12 (by decide))) (s_L (s_bipush dX10_runCommands_15 (by decide +kernel)))) (s_N (s_L (s_iload_n dX10_runCommands_17 rfl)) (s_L (s_o_isub dX10_runCommands_18)))) (s_N (s_N (s_L (s_iret rfl dX10_runCommands_19)) (s_L (s_aload_n dX10_runCommands_20 rfl))) (s_N (s_L (s_callV (d' := tX10_saves) (mc := 0) (ms := 0) ok_8 cc_X10_runCommands_X10_saves qw_1030 qw_1032 qw_32 dX10_runCommands_21)) (s_L (s_aload_n dX10_runCommands_24 rfl)))))) (s_N (s_N (s_N (s_N (s_L (s_iconst dX10_runCommands_25 (by decide +kernel))) (s_L (s_putf ok_8 (k := 4) (by decide) rfl (Or.inl rfl) dX10_runCommands_26 qw_976))) (s_N (s_L (s_iconst dX10_runCommands_29 (by decide +kernel))) (s_L (s_istore_n dX10_runCommands_30 rfl (by decide))))) (s_N (s_N (s_L (s_iconst dX10_runCommands_31 (by decide +kernel))) (s_L (s_istore_n dX10_runCommands_32 rfl (by decide)))) (s_N (s_L (s_aload_n dX10_runCommands_33 rfl)) (s_L (s_iconst dX10_runCommands_34 (by decide +kernel)))))) (s_N (s_N (s_N (s_L (s_puti ok_8 (k := 10) (by decide) rfl (Or.inl rfl) dX10_runCommands_35 qw_982)) (s_L (s_aload_n dX10_runCommands_38 rfl))) (s_N (s_L (s_callV (d' := tX10_skips) (mc := 0) (ms := 0) ok_8 cc_X10_runCommands_X10_skips qw_1229 qw_1231 qw_61 dX10_runCommands_39)) (s_L (s_iload_n dX10_runCommands_42 rfl)))) (s_N (s_N (s_L (s_o_if_eq dX10_runCommands_43 (by decide))) (s_L (s_aload_n dX10_runCommands_46 rfl))) (s_N (s_L (s_getf ok_8 (k := 10) (by decide) dX10_runCommands_47 qw_982)) (s_L (s_aload_n dX10_runCommands_50 rfl))))))) (s_N (s_N (s_N (s_N (s_N (s_L (s_getf ok_8 (k := 6) (by decide) dX10_runCommands_51 qw_978)) (s_L (s_o_icmp_ge dX10_runCommands_54 (by decide)))) (s_N (s_L (s_aload_n dX10_runCommands_57 rfl)) (s_L (s_callV (d' := tX10_readsOne) (mc := 0) (ms := 0) ok_8 cc_X10_runCommands_X10_readsOne qw_1237 qw_1239 qw_63 dX10_runCommands_58)))) (s_N (s_N (s_L (s_istore_n dX10_runCommands_61 rfl (by decide))) (s_L (s_aload_n dX10_runCommands_62 rfl))) (s_N (s_L (s_callV (d' := tX10_does) (mc := 0) (ms := 0) ok_8 cc_X10_runCommands_X10_does qw_1253 qw_1255 qw_67 dX10_runCommands_63)) (s_L (s_iload_n dX10_runCommands_66 rfl))))) (s_N (s_N (s_N (s_L (s_o_if_eq dX10_runCommands_67 (by decide))) (s_L (s_aload_n dX10_runCommands_70 rfl))) (s_N (s_L (s_getf ok_8 (k := 7) (by decide) dX10_runCommands_71 qw_979)) (s_L (s_o_if_ne dX10_runCommands_74 (by decide))))) (s_N (s_N (s_L (s_iconst dX10_runCommands_77 (by decide +kernel))) (s_L (s_o_goto dX10_runCommands_78 (by decide)))) (s_N (s_L (s_iconst dX10_runCommands_81 (by decide +kernel))) (s_L (s_istore_n dX10_runCommands_82 rfl (by decide))))))) (s_N (s_N (s_N (s_N (s_L (s_iload_n dX10_runCommands_83 rfl)) (s_L (s_iload_n dX10_runCommands_84 rfl))) (s_N (s_L (s_o_if_eq dX10_runCommands_85 (by decide))) (s_L (s_iconst dX10_runCommands_88 (by decide +kernel))))) (s_N (s_N (s_L (s_o_goto dX10_runCommands_89 (by decide))) (s_L (s_iconst dX10_runCommands_92 (by decide +kernel)))) (s_N (s_L (s_o_iadd dX10_runCommands_93)) (s_L (s_istore_n dX10_runCommands_94 rfl (by decide)))))) (s_N (s_N (s_N (s_L (s_o_goto dX10_runCommands_95 (by decide))) (s_L (s_aload_n dX10_runCommands_98 rfl))) (s_N (s_L (s_iconst dX10_runCommands_99 (by decide +kernel))) (s_L (s_putf ok_8 (k := 4) (by decide) rfl (Or.inl rfl) dX10_runCommands_100 qw_976)))) (s_N (s_N (s_L (s_aload_n dX10_runCommands_103 rfl)) (s_L (s_iconst dX10_runCommands_104 (by decide +kernel)))) (s_N (s_L (s_puti ok_8 (k := 7) (by decide) rfl (Or.inl rfl) dX10_runCommands_105 qw_979)) (s_N (s_L (s_iload_n dX10_runCommands_108 rfl)) (s_L (s_iret rfl dX10_runCommands_109))))))))
/-! PlateArmModel.undo -/
theorem dX10_undo_0 : decode cX10_undo 0 = .ok (.aload_n 0, 1) := by decide +kernel
theorem dX10_undo_1 : decode cX10_undo 1 = .ok (.aload_n 0, 1) := by decide +kernel
theorem dX10_undo_2 : decode cX10_undo 2 = .ok (.getfield 36, 3) := by decide +kernel
theorem dX10_undo_5 : decode cX10_undo 5 = .ok (.ifCond .ne 7, 3) := by decide +kernel
theorem dX10_undo_8 : decode cX10_undo 8 = .ok (.iconst 1, 1) := by decide +kernel
theorem dX10_undo_9 : decode cX10_undo 9 = .ok (.goto 4, 3) := by decide +kernel
theorem dX10_undo_12 : decode cX10_undo 12 = .ok (.iconst 0, 1) := by decide +kernel
theorem dX10_undo_13 : decode cX10_undo 13 = .ok (.invokevirtual 94, 3) := by decide +kernel
theorem dX10_undo_16 : decode cX10_undo 16 = .ok (.ifCond .eq 5, 3) := by decide +kernel
theorem dX10_undo_19 : decode cX10_undo 19 = .ok (.iconst 0, 1) := by decide +kernel
theorem dX10_undo_20 : decode cX10_undo 20 = .ok (.ireturn, 1) := by decide +kernel
theorem dX10_undo_21 : decode cX10_undo 21 = .ok (.aload_n 0, 1) := by decide +kernel
theorem dX10_undo_22 : decode cX10_undo 22 = .ok (.dup, 1) := by decide +kernel
theorem dX10_undo_23 : decode cX10_undo 23 = .ok (.getfield 36, 3) := by decide +kernel
theorem dX10_undo_26 : decode cX10_undo 26 = .ok (.iconst 1, 1) := by decide +kernel
theorem dX10_undo_27 : decode cX10_undo 27 = .ok (.isub, 1) := by decide +kernel
theorem dX10_undo_28 : decode cX10_undo 28 = .ok (.putfield 36, 3) := by decide +kernel
theorem dX10_undo_31 : decode cX10_undo 31 = .ok (.iconst 0, 1) := by decide +kernel
theorem dX10_undo_32 : decode cX10_undo 32 = .ok (.istore_n 1, 1) := by decide +kernel
theorem dX10_undo_33 : decode cX10_undo 33 = .ok (.iload_n 1, 1) := by decide +kernel
theorem dX10_undo_34 : decode cX10_undo 34 = .ok (.sipush 133, 3) := by decide +kernel
theorem dX10_undo_37 : decode cX10_undo 37 = .ok (.if_icmp .ge 30, 3) := by decide +kernel
theorem dX10_undo_40 : decode cX10_undo 40 = .ok (.aload_n 0, 1) := by decide +kernel
theorem dX10_undo_41 : decode cX10_undo 41 = .ok (.getfield 7, 3) := by decide +kernel
theorem dX10_undo_44 : decode cX10_undo 44 = .ok (.iload_n 1, 1) := by decide +kernel
theorem dX10_undo_45 : decode cX10_undo 45 = .ok (.aload_n 0, 1) := by decide +kernel
theorem dX10_undo_46 : decode cX10_undo 46 = .ok (.getfield 13, 3) := by decide +kernel
theorem dX10_undo_49 : decode cX10_undo 49 = .ok (.sipush 133, 3) := by decide +kernel
theorem dX10_undo_52 : decode cX10_undo 52 = .ok (.aload_n 0, 1) := by decide +kernel
theorem dX10_undo_53 : decode cX10_undo 53 = .ok (.getfield 36, 3) := by decide +kernel
theorem dX10_undo_56 : decode cX10_undo 56 = .ok (.imul, 1) := by decide +kernel
theorem dX10_undo_57 : decode cX10_undo 57 = .ok (.iload_n 1, 1) := by decide +kernel
theorem dX10_undo_58 : decode cX10_undo 58 = .ok (.iadd, 1) := by decide +kernel
theorem dX10_undo_59 : decode cX10_undo 59 = .ok (.iaload, 1) := by decide +kernel
theorem dX10_undo_60 : decode cX10_undo 60 = .ok (.iastore, 1) := by decide +kernel
theorem dX10_undo_61 : decode cX10_undo 61 = .ok (.iinc 1 1, 3) := by decide +kernel
theorem dX10_undo_64 : decode cX10_undo 64 = .ok (.goto (-31), 3) := by decide +kernel
theorem dX10_undo_67 : decode cX10_undo 67 = .ok (.aload_n 0, 1) := by decide +kernel
theorem dX10_undo_68 : decode cX10_undo 68 = .ok (.getfield 36, 3) := by decide +kernel
theorem dX10_undo_71 : decode cX10_undo 71 = .ok (.ireturn, 1) := by decide +kernel
theorem cc_X10_undo_X10_throwsAt : CallC tX10_undo tX10_throwsAt 1 := ⟨by decide +kernel, by decide +kernel, by decide +kernel, by decide, by decide, qw_80, qw_1029⟩
def kX10_undo : Nat → WOp := cN 33 (cN 19 (cN 8 (cN 1 (cN 0 (cL 0 (o_aload 1 0)) (cL 1 (o_aload 2 0))) (cN 2 (cL 2 (o_getf 5 8 3)) (cN 5 (cL 5 (o_if_ne 12 8)) (cL 8 (o_push 9 1))))) (cN 12 (cN 9 (cL 9 (o_goto 13)) (cL 12 (o_push 13 0))) (cN 13 (cL 13 (o_callV 16 8 1 tX10_throwsAt 0 0)) (cN 16 (cL 16 (o_if_eq 21 19)) (cL 19 (o_push 20 0)))))) (cN 26 (cN 21 (cN 20 (cL 20 (o_iret)) (cL 21 (o_aload 22 0))) (cN 22 (cL 22 (o_dup 23)) (cN 23 (cL 23 (o_getf 26 8 3)) (cL 26 (o_push 27 1))))) (cN 28 (cN 27 (cL 27 (o_isub 28)) (cL 28 (o_puti 31 8 3))) (cN 31 (cL 31 (o_push 32 0)) (cN 32 (cL 32 (o_istore 33 1)) (cL 33 (o_iload 34 1))))))) (cN 53 (cN 44 (cN 37 (cN 34 (cL 34 (o_push 37 133)) (cL 37 (o_icmp_ge 67 40))) (cN 40 (cL 40 (o_aload 41 0)) (cN 41 (cL 41 (o_getf 44 8 0)) (cL 44 (o_iload 45 1))))) (cN 46 (cN 45 (cL 45 (o_aload 46 0)) (cL 46 (o_getf 49 8 1))) (cN 49 (cL 49 (o_push 52 133)) (cN 52 (cL 52 (o_aload 53 0)) (cL 53 (o_getf 56 8 3)))))) (cN 60 (cN 57 (cN 56 (cL 56 (o_imul 57)) (cL 57 (o_iload 58 1))) (cN 58 (cL 58 (o_iadd 59)) (cN 59 (cL 59 (o_iald 60)) (cL 60 (o_iast 61))))) (cN 64 (cN 61 (cL 61 (o_iinc 64 1 1)) (cL 64 (o_goto 33))) (cN 67 (cL 67 (o_aload 68 0)) (cN 68 (cL 68 (o_getf 71 8 3)) (cL 71 (o_iret)))))))
theorem sX10_undo : ∀ pc, Snd tX10_undo G1 pc (kX10_undo pc) := s_N (s_N (s_N (s_N (s_N (s_L (s_aload_n dX10_undo_0 rfl)) (s_L (s_aload_n dX10_undo_1 rfl))) (s_N (s_L (s_getf ok_8 (k := 3) (by decide) dX10_undo_2 qw_975)) (s_N (s_L (s_o_if_ne dX10_undo_5 (by decide))) (s_L (s_iconst dX10_undo_8 (by decide +kernel)))))) (s_N (s_N (s_L (s_o_goto dX10_undo_9 (by decide))) (s_L (s_iconst dX10_undo_12 (by decide +kernel)))) (s_N (s_L (s_callV (d' := tX10_throwsAt) (mc := 0) (ms := 0) ok_8 cc_X10_undo_X10_throwsAt qw_1026 qw_1028 qw_31 dX10_undo_13)) (s_N (s_L (s_o_if_eq dX10_undo_16 (by decide))) (s_L (s_iconst dX10_undo_19 (by decide +kernel))))))) (s_N (s_N (s_N (s_L (s_iret rfl dX10_undo_20)) (s_L (s_aload_n dX10_undo_21 rfl))) (s_N (s_L (s_o_dup dX10_undo_22)) (s_N (s_L (s_getf ok_8 (k := 3) (by decide) dX10_undo_23 qw_975)) (s_L (s_iconst dX10_undo_26 (by decide +kernel)))))) (s_N (s_N (s_L (s_o_isub dX10_undo_27)) (s_L (s_puti ok_8 (k := 3) (by decide) rfl (Or.inl rfl) dX10_undo_28 qw_975))) (s_N (s_L (s_iconst dX10_undo_31 (by decide +kernel))) (s_N (s_L (s_istore_n dX10_undo_32 rfl (by decide))) (s_L (s_iload_n dX10_undo_33 rfl))))))) (s_N (s_N (s_N (s_N (s_L (s_sipush dX10_undo_34 (by decide +kernel))) (s_L (s_o_icmp_ge dX10_undo_37 (by decide)))) (s_N (s_L (s_aload_n dX10_undo_40 rfl)) (s_N (s_L (s_getf ok_8 (k := 0) (by decide) dX10_undo_41 qw_972)) (s_L (s_iload_n dX10_undo_44 rfl))))) (s_N (s_N (s_L (s_aload_n dX10_undo_45 rfl)) (s_L (s_getf ok_8 (k := 1) (by decide) dX10_undo_46 qw_973))) (s_N (s_L (s_sipush dX10_undo_49 (by decide +kernel))) (s_N (s_L (s_aload_n dX10_undo_52 rfl)) (s_L (s_getf ok_8 (k := 3) (by decide) dX10_undo_53 qw_975)))))) (s_N (s_N (s_N (s_L (s_o_imul dX10_undo_56)) (s_L (s_iload_n dX10_undo_57 rfl))) (s_N (s_L (s_o_iadd dX10_undo_58)) (s_N (s_L (s_iald dX10_undo_59)) (s_L (s_iast dX10_undo_60))))) (s_N (s_N (s_L (s_iinc (v := 1) dX10_undo_61 (by decide +kernel) (by decide))) (s_L (s_o_goto dX10_undo_64 (by decide)))) (s_N (s_L (s_aload_n dX10_undo_67 rfl)) (s_N (s_L (s_getf ok_8 (k := 3) (by decide) dX10_undo_68 qw_975)) (s_L (s_iret rfl dX10_undo_71)))))))
/-! PlateArmModel.say -/
theorem dX10_say_0 : decode cX10_say 0 = .ok (.aload_n 0, 1) := by decide +kernel
theorem dX10_say_1 : decode cX10_say 1 = .ok (.ldc2_w 194, 3) := by decide +kernel
theorem dX10_say_4 : decode cX10_say 4 = .ok (.aload_n 0, 1) := by decide +kernel
theorem dX10_say_5 : decode cX10_say 5 = .ok (.getfield 196, 3) := by decide +kernel
theorem dX10_say_8 : decode cX10_say 8 = .ok (.lmul, 1) := by decide +kernel
theorem dX10_say_9 : decode cX10_say 9 = .ok (.iload_n 1, 1) := by decide +kernel
theorem dX10_say_10 : decode cX10_say 10 = .ok (.i2l, 1) := by decide +kernel
theorem dX10_say_11 : decode cX10_say 11 = .ok (.ladd, 1) := by decide +kernel
theorem dX10_say_12 : decode cX10_say 12 = .ok (.putfield 196, 3) := by decide +kernel
theorem dX10_say_15 : decode cX10_say 15 = .ok (.return_, 1) := by decide +kernel
def kX10_say : Nat → WOp := cN 8 (cN 1 (cN 0 (cL 0 (o_aload 1 0)) (cL 1 (o_lpush 4 31))) (cN 4 (cL 4 (o_aload 5 0)) (cN 5 (cL 5 (o_getf 8 8 13)) (cL 8 (o_lmul 9))))) (cN 10 (cN 9 (cL 9 (o_iload 10 1)) (cL 10 (o_i2l 11))) (cN 11 (cL 11 (o_ladd 12)) (cN 12 (cL 12 (o_putf 15 8 13 (.long))) (cL 15 (o_vret)))))
theorem sX10_say : ∀ pc, Snd tX10_say G1 pc (kX10_say pc) := s_N (s_N (s_N (s_L (s_aload_n dX10_say_0 rfl)) (s_L (s_ldc2 dX10_say_1 qw_1275))) (s_N (s_L (s_aload_n dX10_say_4 rfl)) (s_N (s_L (s_getf ok_8 (k := 13) (by decide) dX10_say_5 qw_985)) (s_L (s_o_lmul dX10_say_8))))) (s_N (s_N (s_L (s_iload_n dX10_say_9 rfl)) (s_L (s_o_i2l dX10_say_10))) (s_N (s_L (s_o_ladd dX10_say_11)) (s_N (s_L (s_putf ok_8 (k := 13) (by decide) rfl (Or.inl rfl) dX10_say_12 qw_985)) (s_L (s_vret rfl dX10_say_15)))))
/-! PlateArmModel.digest -/
theorem dX10_digest_0 : decode cX10_digest 0 = .ok (.aload_n 0, 1) := by decide +kernel
theorem dX10_digest_1 : decode cX10_digest 1 = .ok (.iconst 0, 1) := by decide +kernel
theorem dX10_digest_2 : decode cX10_digest 2 = .ok (.putfield 29, 3) := by decide +kernel
theorem dX10_digest_5 : decode cX10_digest 5 = .ok (.aload_n 0, 1) := by decide +kernel
theorem dX10_digest_6 : decode cX10_digest 6 = .ok (.ldc2_w 200, 3) := by decide +kernel
theorem dX10_digest_9 : decode cX10_digest 9 = .ok (.putfield 196, 3) := by decide +kernel
theorem dX10_digest_12 : decode cX10_digest 12 = .ok (.aload_n 0, 1) := by decide +kernel
theorem dX10_digest_13 : decode cX10_digest 13 = .ok (.aload_n 0, 1) := by decide +kernel
theorem dX10_digest_14 : decode cX10_digest 14 = .ok (.getfield 36, 3) := by decide +kernel
theorem dX10_digest_17 : decode cX10_digest 17 = .ok (.invokevirtual 202, 3) := by decide +kernel
theorem dX10_digest_20 : decode cX10_digest 20 = .ok (.iconst 0, 1) := by decide +kernel
theorem dX10_digest_21 : decode cX10_digest 21 = .ok (.istore_n 1, 1) := by decide +kernel
theorem dX10_digest_22 : decode cX10_digest 22 = .ok (.iload_n 1, 1) := by decide +kernel
theorem dX10_digest_23 : decode cX10_digest 23 = .ok (.bipush 18, 2) := by decide +kernel
theorem dX10_digest_25 : decode cX10_digest 25 = .ok (.if_icmp .ge 18, 3) := by decide +kernel
theorem dX10_digest_28 : decode cX10_digest 28 = .ok (.aload_n 0, 1) := by decide +kernel
theorem dX10_digest_29 : decode cX10_digest 29 = .ok (.aload_n 0, 1) := by decide +kernel
theorem dX10_digest_30 : decode cX10_digest 30 = .ok (.iload_n 1, 1) := by decide +kernel
theorem dX10_digest_31 : decode cX10_digest 31 = .ok (.invokevirtual 128, 3) := by decide +kernel
theorem dX10_digest_34 : decode cX10_digest 34 = .ok (.invokevirtual 202, 3) := by decide +kernel
theorem dX10_digest_37 : decode cX10_digest 37 = .ok (.iinc 1 1, 3) := by decide +kernel
theorem dX10_digest_40 : decode cX10_digest 40 = .ok (.goto (-18), 3) := by decide +kernel
theorem dX10_digest_43 : decode cX10_digest 43 = .ok (.iconst 0, 1) := by decide +kernel
theorem dX10_digest_44 : decode cX10_digest 44 = .ok (.istore_n 1, 1) := by decide +kernel
theorem dX10_digest_45 : decode cX10_digest 45 = .ok (.iload_n 1, 1) := by decide +kernel
theorem dX10_digest_46 : decode cX10_digest 46 = .ok (.bipush 6, 2) := by decide +kernel
theorem dX10_digest_48 : decode cX10_digest 48 = .ok (.if_icmp .ge 18, 3) := by decide +kernel
theorem dX10_digest_51 : decode cX10_digest 51 = .ok (.aload_n 0, 1) := by decide +kernel
theorem dX10_digest_52 : decode cX10_digest 52 = .ok (.aload_n 0, 1) := by decide +kernel
theorem dX10_digest_53 : decode cX10_digest 53 = .ok (.iload_n 1, 1) := by decide +kernel
theorem dX10_digest_54 : decode cX10_digest 54 = .ok (.invokevirtual 122, 3) := by decide +kernel
theorem dX10_digest_57 : decode cX10_digest 57 = .ok (.invokevirtual 202, 3) := by decide +kernel
theorem dX10_digest_60 : decode cX10_digest 60 = .ok (.iinc 1 1, 3) := by decide +kernel
theorem dX10_digest_63 : decode cX10_digest 63 = .ok (.goto (-18), 3) := by decide +kernel
theorem dX10_digest_66 : decode cX10_digest 66 = .ok (.iconst 0, 1) := by decide +kernel
theorem dX10_digest_67 : decode cX10_digest 67 = .ok (.istore_n 1, 1) := by decide +kernel
theorem dX10_digest_68 : decode cX10_digest 68 = .ok (.iload_n 1, 1) := by decide +kernel
theorem dX10_digest_69 : decode cX10_digest 69 = .ok (.aload_n 0, 1) := by decide +kernel
theorem dX10_digest_70 : decode cX10_digest 70 = .ok (.getfield 7, 3) := by decide +kernel
theorem dX10_digest_73 : decode cX10_digest 73 = .ok (.bipush 21, 2) := by decide +kernel
theorem dX10_digest_75 : decode cX10_digest 75 = .ok (.iaload, 1) := by decide +kernel
theorem dX10_digest_76 : decode cX10_digest 76 = .ok (.if_icmp .ge 43, 3) := by decide +kernel
theorem dX10_digest_79 : decode cX10_digest 79 = .ok (.aload_n 0, 1) := by decide +kernel
theorem dX10_digest_80 : decode cX10_digest 80 = .ok (.aload_n 0, 1) := by decide +kernel
theorem dX10_digest_81 : decode cX10_digest 81 = .ok (.iload_n 1, 1) := by decide +kernel
theorem dX10_digest_82 : decode cX10_digest 82 = .ok (.iconst 0, 1) := by decide +kernel
theorem dX10_digest_83 : decode cX10_digest 83 = .ok (.invokevirtual 39, 3) := by decide +kernel
theorem dX10_digest_86 : decode cX10_digest 86 = .ok (.invokevirtual 202, 3) := by decide +kernel
theorem dX10_digest_89 : decode cX10_digest 89 = .ok (.iconst 0, 1) := by decide +kernel
theorem dX10_digest_90 : decode cX10_digest 90 = .ok (.istore_n 2, 1) := by decide +kernel
theorem dX10_digest_91 : decode cX10_digest 91 = .ok (.iload_n 2, 1) := by decide +kernel
theorem dX10_digest_92 : decode cX10_digest 92 = .ok (.bipush 6, 2) := by decide +kernel
theorem dX10_digest_94 : decode cX10_digest 94 = .ok (.if_icmp .ge 19, 3) := by decide +kernel
theorem dX10_digest_97 : decode cX10_digest 97 = .ok (.aload_n 0, 1) := by decide +kernel
theorem dX10_digest_98 : decode cX10_digest 98 = .ok (.aload_n 0, 1) := by decide +kernel
theorem dX10_digest_99 : decode cX10_digest 99 = .ok (.iload_n 1, 1) := by decide +kernel
theorem dX10_digest_100 : decode cX10_digest 100 = .ok (.iload_n 2, 1) := by decide +kernel
theorem dX10_digest_101 : decode cX10_digest 101 = .ok (.invokevirtual 116, 3) := by decide +kernel
theorem dX10_digest_104 : decode cX10_digest 104 = .ok (.invokevirtual 202, 3) := by decide +kernel
theorem dX10_digest_107 : decode cX10_digest 107 = .ok (.iinc 2 1, 3) := by decide +kernel
theorem dX10_digest_110 : decode cX10_digest 110 = .ok (.goto (-19), 3) := by decide +kernel
theorem dX10_digest_113 : decode cX10_digest 113 = .ok (.iinc 1 1, 3) := by decide +kernel
theorem dX10_digest_116 : decode cX10_digest 116 = .ok (.goto (-48), 3) := by decide +kernel
theorem dX10_digest_119 : decode cX10_digest 119 = .ok (.iconst 0, 1) := by decide +kernel
theorem dX10_digest_120 : decode cX10_digest 120 = .ok (.istore_n 1, 1) := by decide +kernel
theorem dX10_digest_121 : decode cX10_digest 121 = .ok (.iload_n 1, 1) := by decide +kernel
theorem dX10_digest_122 : decode cX10_digest 122 = .ok (.iconst 5, 1) := by decide +kernel
theorem dX10_digest_123 : decode cX10_digest 123 = .ok (.aload_n 0, 1) := by decide +kernel
theorem dX10_digest_124 : decode cX10_digest 124 = .ok (.getfield 7, 3) := by decide +kernel
theorem dX10_digest_127 : decode cX10_digest 127 = .ok (.bipush 22, 2) := by decide +kernel
theorem dX10_digest_129 : decode cX10_digest 129 = .ok (.iaload, 1) := by decide +kernel
theorem dX10_digest_130 : decode cX10_digest 130 = .ok (.imul, 1) := by decide +kernel
theorem dX10_digest_131 : decode cX10_digest 131 = .ok (.if_icmp .ge 22, 3) := by decide +kernel
theorem dX10_digest_134 : decode cX10_digest 134 = .ok (.aload_n 0, 1) := by decide +kernel
theorem dX10_digest_135 : decode cX10_digest 135 = .ok (.aload_n 0, 1) := by decide +kernel
theorem dX10_digest_136 : decode cX10_digest 136 = .ok (.getfield 7, 3) := by decide +kernel
theorem dX10_digest_139 : decode cX10_digest 139 = .ok (.bipush 83, 2) := by decide +kernel
theorem dX10_digest_141 : decode cX10_digest 141 = .ok (.iload_n 1, 1) := by decide +kernel
theorem dX10_digest_142 : decode cX10_digest 142 = .ok (.iadd, 1) := by decide +kernel
theorem dX10_digest_143 : decode cX10_digest 143 = .ok (.iaload, 1) := by decide +kernel
theorem dX10_digest_144 : decode cX10_digest 144 = .ok (.invokevirtual 202, 3) := by decide +kernel
theorem dX10_digest_147 : decode cX10_digest 147 = .ok (.iinc 1 1, 3) := by decide +kernel
theorem dX10_digest_150 : decode cX10_digest 150 = .ok (.goto (-29), 3) := by decide +kernel
theorem dX10_digest_153 : decode cX10_digest 153 = .ok (.iconst 0, 1) := by decide +kernel
theorem dX10_digest_154 : decode cX10_digest 154 = .ok (.istore_n 1, 1) := by decide +kernel
theorem dX10_digest_155 : decode cX10_digest 155 = .ok (.iload_n 1, 1) := by decide +kernel
theorem dX10_digest_156 : decode cX10_digest 156 = .ok (.iconst 4, 1) := by decide +kernel
theorem dX10_digest_157 : decode cX10_digest 157 = .ok (.if_icmp .ge 45, 3) := by decide +kernel
theorem dX10_digest_160 : decode cX10_digest 160 = .ok (.aload_n 0, 1) := by decide +kernel
theorem dX10_digest_161 : decode cX10_digest 161 = .ok (.aload_n 0, 1) := by decide +kernel
theorem dX10_digest_162 : decode cX10_digest 162 = .ok (.aload_n 0, 1) := by decide +kernel
theorem dX10_digest_163 : decode cX10_digest 163 = .ok (.iload_n 1, 1) := by decide +kernel
theorem dX10_digest_164 : decode cX10_digest 164 = .ok (.invokevirtual 78, 3) := by decide +kernel
theorem dX10_digest_167 : decode cX10_digest 167 = .ok (.invokevirtual 131, 3) := by decide +kernel
theorem dX10_digest_170 : decode cX10_digest 170 = .ok (.invokevirtual 202, 3) := by decide +kernel
theorem dX10_digest_173 : decode cX10_digest 173 = .ok (.iconst 0, 1) := by decide +kernel
theorem dX10_digest_174 : decode cX10_digest 174 = .ok (.istore_n 2, 1) := by decide +kernel
theorem dX10_digest_175 : decode cX10_digest 175 = .ok (.iload_n 2, 1) := by decide +kernel
theorem dX10_digest_176 : decode cX10_digest 176 = .ok (.iconst 3, 1) := by decide +kernel
theorem dX10_digest_177 : decode cX10_digest 177 = .ok (.if_icmp .ge 19, 3) := by decide +kernel
theorem dX10_digest_180 : decode cX10_digest 180 = .ok (.aload_n 0, 1) := by decide +kernel
theorem dX10_digest_181 : decode cX10_digest 181 = .ok (.aload_n 0, 1) := by decide +kernel
theorem dX10_digest_182 : decode cX10_digest 182 = .ok (.iload_n 1, 1) := by decide +kernel
theorem dX10_digest_183 : decode cX10_digest 183 = .ok (.iload_n 2, 1) := by decide +kernel
theorem dX10_digest_184 : decode cX10_digest 184 = .ok (.invokevirtual 134, 3) := by decide +kernel
theorem dX10_digest_187 : decode cX10_digest 187 = .ok (.invokevirtual 202, 3) := by decide +kernel
theorem dX10_digest_190 : decode cX10_digest 190 = .ok (.iinc 2 1, 3) := by decide +kernel
theorem dX10_digest_193 : decode cX10_digest 193 = .ok (.goto (-18), 3) := by decide +kernel
theorem dX10_digest_196 : decode cX10_digest 196 = .ok (.iinc 1 1, 3) := by decide +kernel
theorem dX10_digest_199 : decode cX10_digest 199 = .ok (.goto (-44), 3) := by decide +kernel
theorem dX10_digest_202 : decode cX10_digest 202 = .ok (.aload_n 0, 1) := by decide +kernel
theorem dX10_digest_203 : decode cX10_digest 203 = .ok (.aload_n 0, 1) := by decide +kernel
theorem dX10_digest_204 : decode cX10_digest 204 = .ok (.invokevirtual 137, 3) := by decide +kernel
theorem dX10_digest_207 : decode cX10_digest 207 = .ok (.invokevirtual 202, 3) := by decide +kernel
theorem dX10_digest_210 : decode cX10_digest 210 = .ok (.aload_n 0, 1) := by decide +kernel
theorem dX10_digest_211 : decode cX10_digest 211 = .ok (.aload_n 0, 1) := by decide +kernel
theorem dX10_digest_212 : decode cX10_digest 212 = .ok (.bipush 10, 2) := by decide +kernel
theorem dX10_digest_214 : decode cX10_digest 214 = .ok (.invokevirtual 140, 3) := by decide +kernel
theorem dX10_digest_217 : decode cX10_digest 217 = .ok (.invokevirtual 202, 3) := by decide +kernel
theorem dX10_digest_220 : decode cX10_digest 220 = .ok (.aload_n 0, 1) := by decide +kernel
theorem dX10_digest_221 : decode cX10_digest 221 = .ok (.aload_n 0, 1) := by decide +kernel
theorem dX10_digest_222 : decode cX10_digest 222 = .ok (.invokevirtual 143, 3) := by decide +kernel
theorem dX10_digest_225 : decode cX10_digest 225 = .ok (.invokevirtual 202, 3) := by decide +kernel
theorem dX10_digest_228 : decode cX10_digest 228 = .ok (.aload_n 0, 1) := by decide +kernel
theorem dX10_digest_229 : decode cX10_digest 229 = .ok (.getfield 196, 3) := by decide +kernel
theorem dX10_digest_232 : decode cX10_digest 232 = .ok (.lreturn, 1) := by decide +kernel
theorem cc_X10_digest_X10_say : CallC tX10_digest tX10_say 1 := ⟨by decide +kernel, by decide +kernel, by decide +kernel, by decide, by decide, qw_80, qw_1274⟩
theorem cc_X10_digest_X10_wholeOf : CallC tX10_digest tX10_wholeOf 1 := ⟨by decide +kernel, by decide +kernel, by decide +kernel, by decide, by decide, qw_80, qw_1164⟩
theorem cc_X10_digest_X10_armOf : CallC tX10_digest tX10_armOf 1 := ⟨by decide +kernel, by decide +kernel, by decide +kernel, by decide, by decide, qw_80, qw_1156⟩
theorem cc_X10_digest_X10_of : CallC tX10_digest tX10_of 2 := ⟨by decide +kernel, by decide +kernel, by decide +kernel, by decide, by decide, qw_80, qw_1049⟩
theorem cc_X10_digest_X10_told : CallC tX10_digest tX10_told 2 := ⟨by decide +kernel, by decide +kernel, by decide +kernel, by decide, by decide, qw_80, qw_1136⟩
theorem cc_X10_digest_X10_targetBy : CallC tX10_digest tX10_targetBy 1 := ⟨by decide +kernel, by decide +kernel, by decide +kernel, by decide, by decide, qw_80, qw_1069⟩
theorem cc_X10_digest_X10_numberOf : CallC tX10_digest tX10_numberOf 1 := ⟨by decide +kernel, by decide +kernel, by decide +kernel, by decide, by decide, qw_80, qw_1172⟩
theorem cc_X10_digest_X10_valueBy : CallC tX10_digest tX10_valueBy 2 := ⟨by decide +kernel, by decide +kernel, by decide +kernel, by decide, by decide, qw_80, qw_1184⟩
theorem cc_X10_digest_X10_best : CallC tX10_digest tX10_best 0 := ⟨by decide +kernel, by decide +kernel, by decide +kernel, by decide, by decide, qw_80, qw_1192⟩
theorem cc_X10_digest_X10_heatBehind : CallC tX10_digest tX10_heatBehind 1 := ⟨by decide +kernel, by decide +kernel, by decide +kernel, by decide, by decide, qw_80, qw_1200⟩
theorem cc_X10_digest_X10_widestNow : CallC tX10_digest tX10_widestNow 0 := ⟨by decide +kernel, by decide +kernel, by decide +kernel, by decide, by decide, qw_80, qw_1208⟩
def kX10_digest : Nat → WOp := cN 116 (cN 54 (cN 25 (cN 12 (cN 2 (cN 0 (cL 0 (o_aload 1 0)) (cN 1 (cL 1 (o_push 2 0)) (cL 2 (o_puti 5 8 7)))) (cN 6 (cN 5 (cL 5 (o_aload 6 0)) (cL 6 (o_lpush 9 43906))) (cN 9 (cL 9 (o_putf 12 8 13 (.long))) (cL 12 (o_aload 13 0))))) (cN 20 (cN 14 (cN 13 (cL 13 (o_aload 14 0)) (cL 14 (o_getf 17 8 3))) (cN 17 (cL 17 (o_callV 20 8 1 tX10_say 0 0)) (cL 20 (o_push 21 0)))) (cN 22 (cN 21 (cL 21 (o_istore 22 1)) (cL 22 (o_iload 23 1))) (cN 23 (cL 23 (o_push 25 18)) (cL 25 (o_icmp_ge 43 28)))))) (cN 43 (cN 31 (cN 29 (cN 28 (cL 28 (o_aload 29 0)) (cL 29 (o_aload 30 0))) (cN 30 (cL 30 (o_iload 31 1)) (cL 31 (o_callV 34 8 1 tX10_wholeOf 0 0)))) (cN 37 (cN 34 (cL 34 (o_callV 37 8 1 tX10_say 0 0)) (cL 37 (o_iinc 40 1 1))) (cN 40 (cL 40 (o_goto 22)) (cL 43 (o_push 44 0))))) (cN 48 (cN 45 (cN 44 (cL 44 (o_istore 45 1)) (cL 45 (o_iload 46 1))) (cN 46 (cL 46 (o_push 48 6)) (cL 48 (o_icmp_ge 66 51)))) (cN 52 (cN 51 (cL 51 (o_aload 52 0)) (cL 52 (o_aload 53 0))) (cN 53 (cL 53 (o_iload 54 1)) (cL 54 (o_callV 57 8 1 tX10_armOf 0 0))))))) (cN 83 (cN 70 (cN 66 (cN 60 (cN 57 (cL 57 (o_callV 60 8 1 tX10_say 0 0)) (cL 60 (o_iinc 63 1 1))) (cN 63 (cL 63 (o_goto 45)) (cL 66 (o_push 67 0)))) (cN 68 (cN 67 (cL 67 (o_istore 68 1)) (cL 68 (o_iload 69 1))) (cN 69 (cL 69 (o_aload 70 0)) (cL 70 (o_getf 73 8 0))))) (cN 79 (cN 75 (cN 73 (cL 73 (o_push 75 21)) (cL 75 (o_iald 76))) (cN 76 (cL 76 (o_icmp_ge 119 79)) (cL 79 (o_aload 80 0)))) (cN 81 (cN 80 (cL 80 (o_aload 81 0)) (cL 81 (o_iload 82 1))) (cN 82 (cL 82 (o_push 83 0)) (cL 83 (o_callV 86 8 2 tX10_of 0 0)))))) (cN 98 (cN 91 (cN 89 (cN 86 (cL 86 (o_callV 89 8 1 tX10_say 0 0)) (cL 89 (o_push 90 0))) (cN 90 (cL 90 (o_istore 91 2)) (cL 91 (o_iload 92 2)))) (cN 94 (cN 92 (cL 92 (o_push 94 6)) (cL 94 (o_icmp_ge 113 97))) (cN 97 (cL 97 (o_aload 98 0)) (cL 98 (o_aload 99 0))))) (cN 104 (cN 100 (cN 99 (cL 99 (o_iload 100 1)) (cL 100 (o_iload 101 2))) (cN 101 (cL 101 (o_callV 104 8 2 tX10_told 0 0)) (cL 104 (o_callV 107 8 1 tX10_say 0 0)))) (cN 110 (cN 107 (cL 107 (o_iinc 110 2 1)) (cL 110 (o_goto 91))) (cN 113 (cL 113 (o_iinc 116 1 1)) (cL 116 (o_goto 68)))))))) (cN 167 (cN 141 (cN 127 (cN 121 (cN 119 (cL 119 (o_push 120 0)) (cN 120 (cL 120 (o_istore 121 1)) (cL 121 (o_iload 122 1)))) (cN 123 (cN 122 (cL 122 (o_push 123 5)) (cL 123 (o_aload 124 0))) (cN 124 (cL 124 (o_getf 127 8 0)) (cL 127 (o_push 129 22))))) (cN 134 (cN 130 (cN 129 (cL 129 (o_iald 130)) (cL 130 (o_imul 131))) (cN 131 (cL 131 (o_icmp_ge 153 134)) (cL 134 (o_aload 135 0)))) (cN 136 (cN 135 (cL 135 (o_aload 136 0)) (cL 136 (o_getf 139 8 0))) (cN 139 (cL 139 (o_push 141 83)) (cL 141 (o_iload 142 1)))))) (cN 155 (cN 147 (cN 143 (cN 142 (cL 142 (o_iadd 143)) (cL 143 (o_iald 144))) (cN 144 (cL 144 (o_callV 147 8 1 tX10_say 0 0)) (cL 147 (o_iinc 150 1 1)))) (cN 153 (cN 150 (cL 150 (o_goto 121)) (cL 153 (o_push 154 0))) (cN 154 (cL 154 (o_istore 155 1)) (cL 155 (o_iload 156 1))))) (cN 161 (cN 157 (cN 156 (cL 156 (o_push 157 4)) (cL 157 (o_icmp_ge 202 160))) (cN 160 (cL 160 (o_aload 161 0)) (cL 161 (o_aload 162 0)))) (cN 163 (cN 162 (cL 162 (o_aload 163 0)) (cL 163 (o_iload 164 1))) (cN 164 (cL 164 (o_callV 167 8 1 tX10_targetBy 0 0)) (cL 167 (o_callV 170 8 1 tX10_numberOf 0 0))))))) (cN 199 (cN 181 (cN 175 (cN 173 (cN 170 (cL 170 (o_callV 173 8 1 tX10_say 0 0)) (cL 173 (o_push 174 0))) (cN 174 (cL 174 (o_istore 175 2)) (cL 175 (o_iload 176 2)))) (cN 177 (cN 176 (cL 176 (o_push 177 3)) (cL 177 (o_icmp_ge 196 180))) (cN 180 (cL 180 (o_aload 181 0)) (cL 181 (o_aload 182 0))))) (cN 187 (cN 183 (cN 182 (cL 182 (o_iload 183 1)) (cL 183 (o_iload 184 2))) (cN 184 (cL 184 (o_callV 187 8 2 tX10_valueBy 0 0)) (cL 187 (o_callV 190 8 1 tX10_say 0 0)))) (cN 193 (cN 190 (cL 190 (o_iinc 193 2 1)) (cL 193 (o_goto 175))) (cN 196 (cL 196 (o_iinc 199 1 1)) (cL 199 (o_goto 155)))))) (cN 214 (cN 207 (cN 203 (cN 202 (cL 202 (o_aload 203 0)) (cL 203 (o_aload 204 0))) (cN 204 (cL 204 (o_callV 207 8 0 tX10_best 0 0)) (cL 207 (o_callV 210 8 1 tX10_say 0 0)))) (cN 211 (cN 210 (cL 210 (o_aload 211 0)) (cL 211 (o_aload 212 0))) (cN 212 (cL 212 (o_push 214 10)) (cL 214 (o_callV 217 8 1 tX10_heatBehind 0 0))))) (cN 222 (cN 220 (cN 217 (cL 217 (o_callV 220 8 1 tX10_say 0 0)) (cL 220 (o_aload 221 0))) (cN 221 (cL 221 (o_aload 222 0)) (cL 222 (o_callV 225 8 0 tX10_widestNow 0 0)))) (cN 228 (cN 225 (cL 225 (o_callV 228 8 1 tX10_say 0 0)) (cL 228 (o_aload 229 0))) (cN 229 (cL 229 (o_getf 232 8 13)) (cL 232 (o_lret))))))))
theorem sX10_digest : ∀ pc, Snd tX10_digest G1 pc (kX10_digest pc) := s_N (s_N (s_N (s_N (s_N (s_N (s_L (s_aload_n dX10_digest_0 rfl)) (s_N (s_L (s_iconst dX10_digest_1 (by decide +kernel))) (s_L (s_puti ok_8 (k := 7) (by decide) rfl (Or.inl rfl) dX10_digest_2 qw_979)))) (s_N (s_N (s_L (s_aload_n dX10_digest_5 rfl)) (s_L (s_ldc2 dX10_digest_6 qw_1270))) (s_N (s_L (s_putf ok_8 (k := 13) (by decide) rfl (Or.inl rfl) dX10_digest_9 qw_985)) (s_L (s_aload_n dX10_digest_12 rfl))))) (s_N (s_N (s_N (s_L (s_aload_n dX10_digest_13 rfl)) (s_L (s_getf ok_8 (k := 3) (by decide) dX10_digest_14 qw_975))) (s_N (s_L (s_callV (d' := tX10_say) (mc := 0) (ms := 0) ok_8 cc_X10_digest_X10_say qw_1271 qw_1273 qw_68 dX10_digest_17)) (s_L (s_iconst dX10_digest_20 (by decide +kernel))))) (s_N (s_N (s_L (s_istore_n dX10_digest_21 rfl (by decide))) (s_L (s_iload_n dX10_digest_22 rfl))) (s_N (s_L (s_bipush dX10_digest_23 (by decide +kernel))) (s_L (s_o_icmp_ge dX10_digest_25 (by decide))))))) (s_N (s_N (s_N (s_N (s_L (s_aload_n dX10_digest_28 rfl)) (s_L (s_aload_n dX10_digest_29 rfl))) (s_N (s_L (s_iload_n dX10_digest_30 rfl)) (s_L (s_callV (d' := tX10_wholeOf) (mc := 0) (ms := 0) ok_8 cc_X10_digest_X10_wholeOf qw_1161 qw_1163 qw_54 dX10_digest_31)))) (s_N (s_N (s_L (s_callV (d' := tX10_say) (mc := 0) (ms := 0) ok_8 cc_X10_digest_X10_say qw_1271 qw_1273 qw_68 dX10_digest_34)) (s_L (s_iinc (v := 1) dX10_digest_37 (by decide +kernel) (by decide)))) (s_N (s_L (s_o_goto dX10_digest_40 (by decide))) (s_L (s_iconst dX10_digest_43 (by decide +kernel)))))) (s_N (s_N (s_N (s_L (s_istore_n dX10_digest_44 rfl (by decide))) (s_L (s_iload_n dX10_digest_45 rfl))) (s_N (s_L (s_bipush dX10_digest_46 (by decide +kernel))) (s_L (s_o_icmp_ge dX10_digest_48 (by decide))))) (s_N (s_N (s_L (s_aload_n dX10_digest_51 rfl)) (s_L (s_aload_n dX10_digest_52 rfl))) (s_N (s_L (s_iload_n dX10_digest_53 rfl)) (s_L (s_callV (d' := tX10_armOf) (mc := 0) (ms := 0) ok_8 cc_X10_digest_X10_armOf qw_1153 qw_1155 qw_53 dX10_digest_54))))))) (s_N (s_N (s_N (s_N (s_N (s_L (s_callV (d' := tX10_say) (mc := 0) (ms := 0) ok_8 cc_X10_digest_X10_say qw_1271 qw_1273 qw_68 dX10_digest_57)) (s_L (s_iinc (v := 1) dX10_digest_60 (by decide +kernel) (by decide)))) (s_N (s_L (s_o_goto dX10_digest_63 (by decide))) (s_L (s_iconst dX10_digest_66 (by decide +kernel))))) (s_N (s_N (s_L (s_istore_n dX10_digest_67 rfl (by decide))) (s_L (s_iload_n dX10_digest_68 rfl))) (s_N (s_L (s_aload_n dX10_digest_69 rfl)) (s_L (s_getf ok_8 (k := 0) (by decide) dX10_digest_70 qw_972))))) (s_N (s_N (s_N (s_L (s_bipush dX10_digest_73 (by decide +kernel))) (s_L (s_iald dX10_digest_75))) (s_N (s_L (s_o_icmp_ge dX10_digest_76 (by decide))) (s_L (s_aload_n dX10_digest_79 rfl)))) (s_N (s_N (s_L (s_aload_n dX10_digest_80 rfl)) (s_L (s_iload_n dX10_digest_81 rfl))) (s_N (s_L (s_iconst dX10_digest_82 (by decide +kernel))) (s_L (s_callV (d' := tX10_of) (mc := 0) (ms := 0) ok_8 cc_X10_digest_X10_of qw_1046 qw_1048 qw_34 dX10_digest_83)))))) (s_N (s_N (s_N (s_N (s_L (s_callV (d' := tX10_say) (mc := 0) (ms := 0) ok_8 cc_X10_digest_X10_say qw_1271 qw_1273 qw_68 dX10_digest_86)) (s_L (s_iconst dX10_digest_89 (by decide +kernel)))) (s_N (s_L (s_istore_n dX10_digest_90 rfl (by decide))) (s_L (s_iload_n dX10_digest_91 rfl)))) (s_N (s_N (s_L (s_bipush dX10_digest_92 (by decide +kernel))) (s_L (s_o_icmp_ge dX10_digest_94 (by decide)))) (s_N (s_L (s_aload_n dX10_digest_97 rfl)) (s_L (s_aload_n dX10_digest_98 rfl))))) (s_N (s_N (s_N (s_L (s_iload_n dX10_digest_99 rfl)) (s_L (s_iload_n dX10_digest_100 rfl))) (s_N (s_L (s_callV (d' := tX10_told) (mc := 0) (ms := 0) ok_8 cc_X10_digest_X10_told qw_1133 qw_1135 qw_51 dX10_digest_101)) (s_L (s_callV (d' := tX10_say) (mc := 0) (ms := 0) ok_8 cc_X10_digest_X10_say qw_1271 qw_1273 qw_68 dX10_digest_104)))) (s_N (s_N (s_L (s_iinc (v := 1) dX10_digest_107 (by decide +kernel) (by decide))) (s_L (s_o_goto dX10_digest_110 (by decide)))) (s_N (s_L (s_iinc (v := 1) dX10_digest_113 (by decide +kernel) (by decide))) (s_L (s_o_goto dX10_digest_116 (by decide))))))))) (s_N (s_N (s_N (s_N (s_N (s_L (s_iconst dX10_digest_119 (by decide +kernel))) (s_N (s_L (s_istore_n dX10_digest_120 rfl (by decide))) (s_L (s_iload_n dX10_digest_121 rfl)))) (s_N (s_N (s_L (s_iconst dX10_digest_122 (by decide +kernel))) (s_L (s_aload_n dX10_digest_123 rfl))) (s_N (s_L (s_getf ok_8 (k := 0) (by decide) dX10_digest_124 qw_972)) (s_L (s_bipush dX10_digest_127 (by decide +kernel)))))) (s_N (s_N (s_N (s_L (s_iald dX10_digest_129)) (s_L (s_o_imul dX10_digest_130))) (s_N (s_L (s_o_icmp_ge dX10_digest_131 (by decide))) (s_L (s_aload_n dX10_digest_134 rfl)))) (s_N (s_N (s_L (s_aload_n dX10_digest_135 rfl)) (s_L (s_getf ok_8 (k := 0) (by decide) dX10_digest_136 qw_972))) (s_N (s_L (s_bipush dX10_digest_139 (by decide +kernel))) (s_L (s_iload_n dX10_digest_141 rfl)))))) (s_N (s_N (s_N (s_N (s_L (s_o_iadd dX10_digest_142)) (s_L (s_iald dX10_digest_143))) (s_N (s_L (s_callV (d' := tX10_say) (mc := 0) (ms := 0) ok_8 cc_X10_digest_X10_say qw_1271 qw_1273 qw_68 dX10_digest_144)) (s_L (s_iinc (v := 1) dX10_digest_147 (by decide +kernel) (by decide))))) (s_N (s_N (s_L (s_o_goto dX10_digest_150 (by decide))) (s_L (s_iconst dX10_digest_153 (by decide +kernel)))) (s_N (s_L (s_istore_n dX10_digest_154 rfl (by decide))) (s_L (s_iload_n dX10_digest_155 rfl))))) (s_N (s_N (s_N (s_L (s_iconst dX10_digest_156 (by decide +kernel))) (s_L (s_o_icmp_ge dX10_digest_157 (by decide)))) (s_N (s_L (s_aload_n dX10_digest_160 rfl)) (s_L (s_aload_n dX10_digest_161 rfl)))) (s_N (s_N (s_L (s_aload_n dX10_digest_162 rfl)) (s_L (s_iload_n dX10_digest_163 rfl))) (s_N (s_L (s_callV (d' := tX10_targetBy) (mc := 0) (ms := 0) ok_8 cc_X10_digest_X10_targetBy qw_1066 qw_1068 qw_37 dX10_digest_164)) (s_L (s_callV (d' := tX10_numberOf) (mc := 0) (ms := 0) ok_8 cc_X10_digest_X10_numberOf qw_1169 qw_1171 qw_55 dX10_digest_167))))))) (s_N (s_N (s_N (s_N (s_N (s_L (s_callV (d' := tX10_say) (mc := 0) (ms := 0) ok_8 cc_X10_digest_X10_say qw_1271 qw_1273 qw_68 dX10_digest_170)) (s_L (s_iconst dX10_digest_173 (by decide +kernel)))) (s_N (s_L (s_istore_n dX10_digest_174 rfl (by decide))) (s_L (s_iload_n dX10_digest_175 rfl)))) (s_N (s_N (s_L (s_iconst dX10_digest_176 (by decide +kernel))) (s_L (s_o_icmp_ge dX10_digest_177 (by decide)))) (s_N (s_L (s_aload_n dX10_digest_180 rfl)) (s_L (s_aload_n dX10_digest_181 rfl))))) (s_N (s_N (s_N (s_L (s_iload_n dX10_digest_182 rfl)) (s_L (s_iload_n dX10_digest_183 rfl))) (s_N (s_L (s_callV (d' := tX10_valueBy) (mc := 0) (ms := 0) ok_8 cc_X10_digest_X10_valueBy qw_1181 qw_1183 qw_56 dX10_digest_184)) (s_L (s_callV (d' := tX10_say) (mc := 0) (ms := 0) ok_8 cc_X10_digest_X10_say qw_1271 qw_1273 qw_68 dX10_digest_187)))) (s_N (s_N (s_L (s_iinc (v := 1) dX10_digest_190 (by decide +kernel) (by decide))) (s_L (s_o_goto dX10_digest_193 (by decide)))) (s_N (s_L (s_iinc (v := 1) dX10_digest_196 (by decide +kernel) (by decide))) (s_L (s_o_goto dX10_digest_199 (by decide))))))) (s_N (s_N (s_N (s_N (s_L (s_aload_n dX10_digest_202 rfl)) (s_L (s_aload_n dX10_digest_203 rfl))) (s_N (s_L (s_callV (d' := tX10_best) (mc := 0) (ms := 0) ok_8 cc_X10_digest_X10_best qw_1189 qw_1191 qw_57 dX10_digest_204)) (s_L (s_callV (d' := tX10_say) (mc := 0) (ms := 0) ok_8 cc_X10_digest_X10_say qw_1271 qw_1273 qw_68 dX10_digest_207)))) (s_N (s_N (s_L (s_aload_n dX10_digest_210 rfl)) (s_L (s_aload_n dX10_digest_211 rfl))) (s_N (s_L (s_bipush dX10_digest_212 (by decide +kernel))) (s_L (s_callV (d' := tX10_heatBehind) (mc := 0) (ms := 0) ok_8 cc_X10_digest_X10_heatBehind qw_1197 qw_1199 qw_58 dX10_digest_214))))) (s_N (s_N (s_N (s_L (s_callV (d' := tX10_say) (mc := 0) (ms := 0) ok_8 cc_X10_digest_X10_say qw_1271 qw_1273 qw_68 dX10_digest_217)) (s_L (s_aload_n dX10_digest_220 rfl))) (s_N (s_L (s_aload_n dX10_digest_221 rfl)) (s_L (s_callV (d' := tX10_widestNow) (mc := 0) (ms := 0) ok_8 cc_X10_digest_X10_widestNow qw_1205 qw_1207 qw_59 dX10_digest_222)))) (s_N (s_N (s_L (s_callV (d' := tX10_say) (mc := 0) (ms := 0) ok_8 cc_X10_digest_X10_say qw_1271 qw_1273 qw_68 dX10_digest_225)) (s_L (s_aload_n dX10_digest_228 rfl))) (s_N (s_L (s_getf ok_8 (k := 13) (by decide) dX10_digest_229 qw_985)) (s_L (s_lret rfl dX10_digest_232))))))))
