/-! PlateArm$CommandScan.<init> -/
theorem dX2_init_0 : decode cX2_init 0 = .ok (.aload_n 0, 1) := by decide +kernel
theorem dX2_init_1 : decode cX2_init 1 = .ok (.invokespecial 3, 3) := by decide +kernel
theorem dX2_init_4 : decode cX2_init 4 = .ok (.aload_n 0, 1) := by decide +kernel
theorem dX2_init_5 : decode cX2_init 5 = .ok (.getstatic 9, 3) := by decide +kernel
theorem dX2_init_8 : decode cX2_init 8 = .ok (.putfield 15, 3) := by decide +kernel
theorem dX2_init_11 : decode cX2_init 11 = .ok (.aload_n 0, 1) := by decide +kernel
theorem dX2_init_12 : decode cX2_init 12 = .ok (.iconst 3, 1) := by decide +kernel
theorem dX2_init_13 : decode cX2_init 13 = .ok (.newarray .int, 2) := by decide +kernel
theorem dX2_init_15 : decode cX2_init 15 = .ok (.putfield 20, 3) := by decide +kernel
theorem dX2_init_18 : decode cX2_init 18 = .ok (.aload_n 0, 1) := by decide +kernel
theorem dX2_init_19 : decode cX2_init 19 = .ok (.iconst 0, 1) := by decide +kernel
theorem dX2_init_20 : decode cX2_init 20 = .ok (.putfield 24, 3) := by decide +kernel
theorem dX2_init_23 : decode cX2_init 23 = .ok (.return_, 1) := by decide +kernel
def kX2_init : Nat → WOp := cN 11 (cN 4 (cN 0 (cL 0 (o_aload 1 0)) (cN 1 (cL 1 (o_objinit 4)) (cL 4 (o_aload 5 0)))) (cN 5 (cL 5 (o_gets 8 (.float 0))) (cN 8 (cL 8 (o_putf 11 1 0 (.object "PlateArm$Word"))) (cL 11 (o_aload 12 0))))) (cN 15 (cN 12 (cL 12 (o_push 13 3)) (cN 13 (cL 13 (o_newa 15 0 3)) (cL 15 (o_putf 18 1 1 (.array .int))))) (cN 19 (cN 18 (cL 18 (o_aload 19 0)) (cL 19 (o_push 20 0))) (cN 20 (cL 20 (o_puti 23 1 2)) (cL 23 (o_vret)))))
theorem sX2_init : ∀ pc, Snd tX2_init G1 pc (kX2_init pc) := s_N (s_N (s_N (s_L (s_aload_n dX2_init_0 rfl)) (s_N (s_L (s_objinit qw_295 qw_101 qw_102 (by decide) (by decide) dX2_init_1)) (s_L (s_aload_n dX2_init_4 rfl)))) (s_N (s_L (s_gets (C := "PlateArm$Word") (nm := "UNKNOWN") (dsc := "LPlateArm$Word;") (by simp [EZ]) dX2_init_5 qw_296)) (s_N (s_L (s_putf ok_1 (k := 0) (by decide) rfl (Or.inl rfl) dX2_init_8 qw_298)) (s_L (s_aload_n dX2_init_11 rfl))))) (s_N (s_N (s_L (s_iconst dX2_init_12 (by decide +kernel))) (s_N (s_L (s_newa (t := 0) (N := 3) (ty := .int) rfl (by decide) (by decide) qw_141 dX2_init_13)) (s_L (s_putf ok_1 (k := 1) (by decide) rfl (Or.inr ⟨rfl, rfl, rfl⟩) dX2_init_15 qw_300)))) (s_N (s_N (s_L (s_aload_n dX2_init_18 rfl)) (s_L (s_iconst dX2_init_19 (by decide +kernel)))) (s_N (s_L (s_puti ok_1 (k := 2) (by decide) rfl (Or.inl rfl) dX2_init_20 qw_302)) (s_L (s_vret rfl dX2_init_23)))))
/-! PlateArm$CommandScan.begin -/
theorem dX2_begin_0 : decode cX2_begin 0 = .ok (.aload_n 0, 1) := by decide +kernel
theorem dX2_begin_1 : decode cX2_begin 1 = .ok (.iconst 0, 1) := by decide +kernel
theorem dX2_begin_2 : decode cX2_begin 2 = .ok (.putfield 24, 3) := by decide +kernel
theorem dX2_begin_5 : decode cX2_begin 5 = .ok (.return_, 1) := by decide +kernel
def kX2_begin : Nat → WOp := cN 1 (cN 0 (cL 0 (o_aload 1 0)) (cL 1 (o_push 2 0))) (cN 2 (cL 2 (o_puti 5 1 2)) (cL 5 (o_vret)))
theorem sX2_begin : ∀ pc, Snd tX2_begin G1 pc (kX2_begin pc) := s_N (s_N (s_L (s_aload_n dX2_begin_0 rfl)) (s_L (s_iconst dX2_begin_1 (by decide +kernel)))) (s_N (s_L (s_puti ok_1 (k := 2) (by decide) rfl (Or.inl rfl) dX2_begin_2 qw_302)) (s_L (s_vret rfl dX2_begin_5)))
/-! PlateArm$CommandScan.faultOf -/
theorem dX2_faultOf_0 : decode cX2_faultOf 0 = .ok (.aload_n 0, 1) := by decide +kernel
theorem dX2_faultOf_1 : decode cX2_faultOf 1 = .ok (.invokevirtual 28, 3) := by decide +kernel
theorem dX2_faultOf_4 : decode cX2_faultOf 4 = .ok (.iconst 0, 1) := by decide +kernel
theorem dX2_faultOf_5 : decode cX2_faultOf 5 = .ok (.istore_n 2, 1) := by decide +kernel
theorem dX2_faultOf_6 : decode cX2_faultOf 6 = .ok (.iload_n 2, 1) := by decide +kernel
theorem dX2_faultOf_7 : decode cX2_faultOf 7 = .ok (.aload_n 1, 1) := by decide +kernel
theorem dX2_faultOf_8 : decode cX2_faultOf 8 = .ok (.getfield 31, 3) := by decide +kernel
theorem dX2_faultOf_11 : decode cX2_faultOf 11 = .ok (.if_icmp .ge 23, 3) := by decide +kernel
theorem dX2_faultOf_14 : decode cX2_faultOf 14 = .ok (.aload_n 0, 1) := by decide +kernel
theorem dX2_faultOf_15 : decode cX2_faultOf 15 = .ok (.aload_n 1, 1) := by decide +kernel
theorem dX2_faultOf_16 : decode cX2_faultOf 16 = .ok (.iload_n 2, 1) := by decide +kernel
theorem dX2_faultOf_17 : decode cX2_faultOf 17 = .ok (.invokevirtual 36, 3) := by decide +kernel
theorem dX2_faultOf_20 : decode cX2_faultOf 20 = .ok (.istore_n 3, 1) := by decide +kernel
theorem dX2_faultOf_21 : decode cX2_faultOf 21 = .ok (.iload_n 3, 1) := by decide +kernel
theorem dX2_faultOf_22 : decode cX2_faultOf 22 = .ok (.iconst (-1), 1) := by decide +kernel
theorem dX2_faultOf_23 : decode cX2_faultOf 23 = .ok (.if_icmp .eq 5, 3) := by decide +kernel
theorem dX2_faultOf_26 : decode cX2_faultOf 26 = .ok (.iload_n 3, 1) := by decide +kernel
theorem dX2_faultOf_27 : decode cX2_faultOf 27 = .ok (.ireturn, 1) := by decide +kernel
theorem dX2_faultOf_28 : decode cX2_faultOf 28 = .ok (.iinc 2 1, 3) := by decide +kernel
theorem dX2_faultOf_31 : decode cX2_faultOf 31 = .ok (.goto (-25), 3) := by decide +kernel
theorem dX2_faultOf_34 : decode cX2_faultOf 34 = .ok (.aload_n 0, 1) := by decide +kernel
theorem dX2_faultOf_35 : decode cX2_faultOf 35 = .ok (.getfield 24, 3) := by decide +kernel
theorem dX2_faultOf_38 : decode cX2_faultOf 38 = .ok (.ifCond .ne 5, 3) := by decide +kernel
theorem dX2_faultOf_41 : decode cX2_faultOf 41 = .ok (.iconst (-1), 1) := by decide +kernel
theorem dX2_faultOf_42 : decode cX2_faultOf 42 = .ok (.ireturn, 1) := by decide +kernel
theorem dX2_faultOf_43 : decode cX2_faultOf 43 = .ok (.aload_n 0, 1) := by decide +kernel
theorem dX2_faultOf_44 : decode cX2_faultOf 44 = .ok (.getfield 24, 3) := by decide +kernel
theorem dX2_faultOf_47 : decode cX2_faultOf 47 = .ok (.iconst 1, 1) := by decide +kernel
theorem dX2_faultOf_48 : decode cX2_faultOf 48 = .ok (.if_icmp .ne 25, 3) := by decide +kernel
theorem dX2_faultOf_51 : decode cX2_faultOf 51 = .ok (.aload_n 1, 1) := by decide +kernel
theorem dX2_faultOf_52 : decode cX2_faultOf 52 = .ok (.aload_n 0, 1) := by decide +kernel
theorem dX2_faultOf_53 : decode cX2_faultOf 53 = .ok (.getfield 40, 3) := by decide +kernel
theorem dX2_faultOf_56 : decode cX2_faultOf 56 = .ok (.aload_n 1, 1) := by decide +kernel
theorem dX2_faultOf_57 : decode cX2_faultOf 57 = .ok (.getfield 31, 3) := by decide +kernel
theorem dX2_faultOf_60 : decode cX2_faultOf 60 = .ok (.invokestatic 43, 3) := by decide +kernel
theorem dX2_faultOf_63 : decode cX2_faultOf 63 = .ok (.getstatic 9, 3) := by decide +kernel
theorem dX2_faultOf_66 : decode cX2_faultOf 66 = .ok (.if_acmp .ne 7, 3) := by decide +kernel
theorem dX2_faultOf_69 : decode cX2_faultOf 69 = .ok (.iconst 1, 1) := by decide +kernel
theorem dX2_faultOf_70 : decode cX2_faultOf 70 = .ok (.goto 4, 3) := by decide +kernel
theorem dX2_faultOf_73 : decode cX2_faultOf 73 = .ok (.iconst 0, 1) := by decide +kernel
theorem dX2_faultOf_74 : decode cX2_faultOf 74 = .ok (.istore_n 2, 1) := by decide +kernel
theorem dX2_faultOf_75 : decode cX2_faultOf 75 = .ok (.iload_n 2, 1) := by decide +kernel
theorem dX2_faultOf_76 : decode cX2_faultOf 76 = .ok (.ifCond .eq 10, 3) := by decide +kernel
theorem dX2_faultOf_79 : decode cX2_faultOf 79 = .ok (.aload_n 0, 1) := by decide +kernel
theorem dX2_faultOf_80 : decode cX2_faultOf 80 = .ok (.getfield 40, 3) := by decide +kernel
theorem dX2_faultOf_83 : decode cX2_faultOf 83 = .ok (.goto 7, 3) := by decide +kernel
theorem dX2_faultOf_86 : decode cX2_faultOf 86 = .ok (.aload_n 1, 1) := by decide +kernel
theorem dX2_faultOf_87 : decode cX2_faultOf 87 = .ok (.getfield 31, 3) := by decide +kernel
theorem dX2_faultOf_90 : decode cX2_faultOf 90 = .ok (.ireturn, 1) := by decide +kernel
theorem cc_X2_faultOf_X2_begin : CallC tX2_faultOf tX2_begin 0 := ⟨by decide +kernel, by decide +kernel, by decide +kernel, by decide, by decide, qw_77, qw_481⟩
theorem cc_X2_faultOf_X2_take : CallC tX2_faultOf tX2_take 2 := ⟨by decide +kernel, by decide +kernel, by decide +kernel, by decide, by decide, qw_77, qw_485⟩
theorem cc_X2_faultOf_X2_wordIn : CallC tX2_faultOf tX2_wordIn 3 := ⟨by decide +kernel, by decide +kernel, by decide +kernel, by decide, by decide, qw_77, qw_503⟩
def kX2_faultOf : Nat → WOp := cN 41 (cN 17 (cN 7 (cN 4 (cN 0 (cL 0 (o_aload 1 0)) (cN 1 (cL 1 (o_callV 4 1 0 tX2_begin 0 0)) (cL 4 (o_push 5 0)))) (cN 5 (cL 5 (o_istore 6 2)) (cN 6 (cL 6 (o_iload 7 2)) (cL 7 (o_aload 8 1))))) (cN 14 (cN 8 (cL 8 (o_getf 11 2 0)) (cN 11 (cL 11 (o_icmp_ge 34 14)) (cL 14 (o_aload 15 0)))) (cN 15 (cL 15 (o_aload 16 1)) (cN 16 (cL 16 (o_iload 17 2)) (cL 17 (o_callV 20 1 2 tX2_take 0 0)))))) (cN 27 (cN 22 (cN 20 (cL 20 (o_istore 21 3)) (cN 21 (cL 21 (o_iload 22 3)) (cL 22 (o_push 23 (-1))))) (cN 23 (cL 23 (o_icmp_eq 28 26)) (cN 26 (cL 26 (o_iload 27 3)) (cL 27 (o_iret))))) (cN 34 (cN 28 (cL 28 (o_iinc 31 2 1)) (cN 31 (cL 31 (o_goto 6)) (cL 34 (o_aload 35 0)))) (cN 35 (cL 35 (o_getf 38 1 2)) (cN 38 (cL 38 (o_if_ne 43 41)) (cL 41 (o_push 42 (-1)))))))) (cN 63 (cN 51 (cN 44 (cN 42 (cL 42 (o_iret)) (cN 43 (cL 43 (o_aload 44 0)) (cL 44 (o_getf 47 1 2)))) (cN 47 (cL 47 (o_push 48 1)) (cN 48 (cL 48 (o_icmp_ne 73 51)) (cL 51 (o_aload 52 1))))) (cN 56 (cN 52 (cL 52 (o_aload 53 0)) (cN 53 (cL 53 (o_getf 56 1 3)) (cL 56 (o_aload 57 1)))) (cN 57 (cL 57 (o_getf 60 2 0)) (cN 60 (cL 60 (o_callS 63 3 tX2_wordIn 0 0)) (cL 63 (o_gets 66 (.float 0))))))) (cN 75 (cN 70 (cN 66 (cL 66 (o_acmp_ne 73 69)) (cN 69 (cL 69 (o_push 70 1)) (cL 70 (o_goto 74)))) (cN 73 (cL 73 (o_push 74 0)) (cN 74 (cL 74 (o_istore 75 2)) (cL 75 (o_iload 76 2))))) (cN 80 (cN 76 (cL 76 (o_if_eq 86 79)) (cN 79 (cL 79 (o_aload 80 0)) (cL 80 (o_getf 83 1 3)))) (cN 86 (cN 83 (cL 83 (o_goto 90)) (cL 86 (o_aload 87 1))) (cN 87 (cL 87 (o_getf 90 2 0)) (cL 90 (o_iret)))))))
theorem sX2_faultOf : ∀ pc, Snd tX2_faultOf G1 pc (kX2_faultOf pc) := s_N (s_N (s_N (s_N (s_N (s_L (s_aload_n dX2_faultOf_0 rfl)) (s_N (s_L (s_callV (d' := tX2_begin) (mc := 0) (ms := 0) ok_1 cc_X2_faultOf_X2_begin qw_478 qw_479 qw_480 dX2_faultOf_1)) (s_L (s_iconst dX2_faultOf_4 (by decide +kernel))))) (s_N (s_L (s_istore_n dX2_faultOf_5 rfl (by decide))) (s_N (s_L (s_iload_n dX2_faultOf_6 rfl)) (s_L (s_aload_n dX2_faultOf_7 rfl))))) (s_N (s_N (s_L (s_getf ok_2 (k := 0) (by decide) dX2_faultOf_8 qw_281)) (s_N (s_L (s_o_icmp_ge dX2_faultOf_11 (by decide))) (s_L (s_aload_n dX2_faultOf_14 rfl)))) (s_N (s_L (s_aload_n dX2_faultOf_15 rfl)) (s_N (s_L (s_iload_n dX2_faultOf_16 rfl)) (s_L (s_callV (d' := tX2_take) (mc := 0) (ms := 0) ok_1 cc_X2_faultOf_X2_take qw_482 qw_483 qw_484 dX2_faultOf_17)))))) (s_N (s_N (s_N (s_L (s_istore_n dX2_faultOf_20 rfl (by decide))) (s_N (s_L (s_iload_n dX2_faultOf_21 rfl)) (s_L (s_iconst dX2_faultOf_22 (by decide +kernel))))) (s_N (s_L (s_o_icmp_eq dX2_faultOf_23 (by decide))) (s_N (s_L (s_iload_n dX2_faultOf_26 rfl)) (s_L (s_iret rfl dX2_faultOf_27))))) (s_N (s_N (s_L (s_iinc (v := 1) dX2_faultOf_28 (by decide +kernel) (by decide))) (s_N (s_L (s_o_goto dX2_faultOf_31 (by decide))) (s_L (s_aload_n dX2_faultOf_34 rfl)))) (s_N (s_L (s_getf ok_1 (k := 2) (by decide) dX2_faultOf_35 qw_302)) (s_N (s_L (s_o_if_ne dX2_faultOf_38 (by decide))) (s_L (s_iconst dX2_faultOf_41 (by decide +kernel)))))))) (s_N (s_N (s_N (s_N (s_L (s_iret rfl dX2_faultOf_42)) (s_N (s_L (s_aload_n dX2_faultOf_43 rfl)) (s_L (s_getf ok_1 (k := 2) (by decide) dX2_faultOf_44 qw_302)))) (s_N (s_L (s_iconst dX2_faultOf_47 (by decide +kernel))) (s_N (s_L (s_o_icmp_ne dX2_faultOf_48 (by decide))) (s_L (s_aload_n dX2_faultOf_51 rfl))))) (s_N (s_N (s_L (s_aload_n dX2_faultOf_52 rfl)) (s_N (s_L (s_getf ok_1 (k := 3) (by decide) dX2_faultOf_53 qw_303)) (s_L (s_aload_n dX2_faultOf_56 rfl)))) (s_N (s_L (s_getf ok_2 (k := 0) (by decide) dX2_faultOf_57 qw_281)) (s_N (s_L (s_callS (d' := tX2_wordIn) (mc := 0) (ms := 0) cc_X2_faultOf_X2_wordIn qw_501 qw_502 dX2_faultOf_60)) (s_L (s_gets (C := "PlateArm$Word") (nm := "UNKNOWN") (dsc := "LPlateArm$Word;") (by simp [EZ]) dX2_faultOf_63 qw_296)))))) (s_N (s_N (s_N (s_L (s_o_acmp_ne dX2_faultOf_66 (by decide))) (s_N (s_L (s_iconst dX2_faultOf_69 (by decide +kernel))) (s_L (s_o_goto dX2_faultOf_70 (by decide))))) (s_N (s_L (s_iconst dX2_faultOf_73 (by decide +kernel))) (s_N (s_L (s_istore_n dX2_faultOf_74 rfl (by decide))) (s_L (s_iload_n dX2_faultOf_75 rfl))))) (s_N (s_N (s_L (s_o_if_eq dX2_faultOf_76 (by decide))) (s_N (s_L (s_aload_n dX2_faultOf_79 rfl)) (s_L (s_getf ok_1 (k := 3) (by decide) dX2_faultOf_80 qw_303)))) (s_N (s_N (s_L (s_o_goto dX2_faultOf_83 (by decide))) (s_L (s_aload_n dX2_faultOf_86 rfl))) (s_N (s_L (s_getf ok_2 (k := 0) (by decide) dX2_faultOf_87 qw_281)) (s_L (s_iret rfl dX2_faultOf_90)))))))
/-! PlateArm$CommandScan.take -/
theorem dX2_take_0 : decode cX2_take 0 = .ok (.aload_n 1, 1) := by decide +kernel
theorem dX2_take_1 : decode cX2_take 1 = .ok (.iload_n 2, 1) := by decide +kernel
theorem dX2_take_2 : decode cX2_take 2 = .ok (.invokevirtual 47, 3) := by decide +kernel
theorem dX2_take_5 : decode cX2_take 5 = .ok (.istore_n 3, 1) := by decide +kernel
theorem dX2_take_6 : decode cX2_take 6 = .ok (.aload_n 0, 1) := by decide +kernel
theorem dX2_take_7 : decode cX2_take 7 = .ok (.getfield 24, 3) := by decide +kernel
theorem dX2_take_10 : decode cX2_take 10 = .ok (.tableswitch 48 0 2 #[26, 33, 41], 26) := by decide +kernel
theorem dX2_take_36 : decode cX2_take 36 = .ok (.aload_n 0, 1) := by decide +kernel
theorem dX2_take_37 : decode cX2_take 37 = .ok (.iload_n 3, 1) := by decide +kernel
theorem dX2_take_38 : decode cX2_take 38 = .ok (.iload_n 2, 1) := by decide +kernel
theorem dX2_take_39 : decode cX2_take 39 = .ok (.invokevirtual 51, 3) := by decide +kernel
theorem dX2_take_42 : decode cX2_take 42 = .ok (.ireturn, 1) := by decide +kernel
theorem dX2_take_43 : decode cX2_take 43 = .ok (.aload_n 0, 1) := by decide +kernel
theorem dX2_take_44 : decode cX2_take 44 = .ok (.aload_n 1, 1) := by decide +kernel
theorem dX2_take_45 : decode cX2_take 45 = .ok (.iload_n 3, 1) := by decide +kernel
theorem dX2_take_46 : decode cX2_take 46 = .ok (.iload_n 2, 1) := by decide +kernel
theorem dX2_take_47 : decode cX2_take 47 = .ok (.invokevirtual 55, 3) := by decide +kernel
theorem dX2_take_50 : decode cX2_take 50 = .ok (.ireturn, 1) := by decide +kernel
theorem dX2_take_51 : decode cX2_take 51 = .ok (.aload_n 0, 1) := by decide +kernel
theorem dX2_take_52 : decode cX2_take 52 = .ok (.iload_n 3, 1) := by decide +kernel
theorem dX2_take_53 : decode cX2_take 53 = .ok (.iload_n 2, 1) := by decide +kernel
theorem dX2_take_54 : decode cX2_take 54 = .ok (.invokevirtual 59, 3) := by decide +kernel
theorem dX2_take_57 : decode cX2_take 57 = .ok (.ireturn, 1) := by decide +kernel
theorem dX2_take_58 : decode cX2_take 58 = .ok (.aload_n 0, 1) := by decide +kernel
theorem dX2_take_59 : decode cX2_take 59 = .ok (.iload_n 3, 1) := by decide +kernel
theorem dX2_take_60 : decode cX2_take 60 = .ok (.iload_n 2, 1) := by decide +kernel
theorem dX2_take_61 : decode cX2_take 61 = .ok (.invokevirtual 62, 3) := by decide +kernel
theorem dX2_take_64 : decode cX2_take 64 = .ok (.ireturn, 1) := by decide +kernel
theorem cc_X2_take_X3_byteAt : CallC tX2_take tX3_byteAt 1 := ⟨by decide +kernel, by decide +kernel, by decide +kernel, by decide, by decide, qw_76, qw_489⟩
theorem cc_X2_take_X2_takeInFront : CallC tX2_take tX2_takeInFront 2 := ⟨by decide +kernel, by decide +kernel, by decide +kernel, by decide, by decide, qw_77, qw_493⟩
theorem cc_X2_take_X2_takeInWord : CallC tX2_take tX2_takeInWord 3 := ⟨by decide +kernel, by decide +kernel, by decide +kernel, by decide, by decide, qw_77, qw_500⟩
theorem cc_X2_take_X2_takeInGap : CallC tX2_take tX2_takeInGap 2 := ⟨by decide +kernel, by decide +kernel, by decide +kernel, by decide, by decide, qw_77, qw_562⟩
theorem cc_X2_take_X2_takeInNumber : CallC tX2_take tX2_takeInNumber 2 := ⟨by decide +kernel, by decide +kernel, by decide +kernel, by decide, by decide, qw_77, qw_573⟩
def kX2_take : Nat → WOp := cN 44 (cN 10 (cN 2 (cN 0 (cL 0 (o_aload 1 1)) (cN 1 (cL 1 (o_iload 2 2)) (cL 2 (o_callV 5 2 1 tX3_byteAt 0 0)))) (cN 6 (cN 5 (cL 5 (o_istore 6 3)) (cL 6 (o_aload 7 0))) (cN 7 (cL 7 (o_getf 10 1 2)) (cL 10 (o_tsw 0 [36, 43, 51] 58))))) (cN 38 (cN 36 (cL 36 (o_aload 37 0)) (cN 37 (cL 37 (o_iload 38 3)) (cL 38 (o_iload 39 2)))) (cN 42 (cN 39 (cL 39 (o_callV 42 1 2 tX2_takeInFront 0 0)) (cL 42 (o_iret))) (cN 43 (cL 43 (o_aload 44 0)) (cL 44 (o_aload 45 1)))))) (cN 53 (cN 47 (cN 45 (cL 45 (o_iload 46 3)) (cN 46 (cL 46 (o_iload 47 2)) (cL 47 (o_callV 50 1 3 tX2_takeInWord 0 0)))) (cN 51 (cN 50 (cL 50 (o_iret)) (cL 51 (o_aload 52 0))) (cN 52 (cL 52 (o_iload 53 3)) (cL 53 (o_iload 54 2))))) (cN 58 (cN 54 (cL 54 (o_callV 57 1 2 tX2_takeInGap 0 0)) (cN 57 (cL 57 (o_iret)) (cL 58 (o_aload 59 0)))) (cN 60 (cN 59 (cL 59 (o_iload 60 3)) (cL 60 (o_iload 61 2))) (cN 61 (cL 61 (o_callV 64 1 2 tX2_takeInNumber 0 0)) (cL 64 (o_iret))))))
theorem sX2_take : ∀ pc, Snd tX2_take G1 pc (kX2_take pc) := s_N (s_N (s_N (s_N (s_L (s_aload_n dX2_take_0 rfl)) (s_N (s_L (s_iload_n dX2_take_1 rfl)) (s_L (s_callV (d' := tX3_byteAt) (mc := 0) (ms := 0) ok_2 cc_X2_take_X3_byteAt qw_486 qw_487 qw_488 dX2_take_2)))) (s_N (s_N (s_L (s_istore_n dX2_take_5 rfl (by decide))) (s_L (s_aload_n dX2_take_6 rfl))) (s_N (s_L (s_getf ok_1 (k := 2) (by decide) dX2_take_7 qw_302)) (s_L (s_tsw dX2_take_10 (by decide +kernel) (by decide) (by decide) (by decide) (by intro k t h; match k, h with | 0, h => exact ⟨26, rfl, by cases h; decide⟩ | 1, h => exact ⟨33, rfl, by cases h; decide⟩ | 2, h => exact ⟨41, rfl, by cases h; decide⟩ | k + 3, h => simp at h) (by decide)))))) (s_N (s_N (s_L (s_aload_n dX2_take_36 rfl)) (s_N (s_L (s_iload_n dX2_take_37 rfl)) (s_L (s_iload_n dX2_take_38 rfl)))) (s_N (s_N (s_L (s_callV (d' := tX2_takeInFront) (mc := 0) (ms := 0) ok_1 cc_X2_take_X2_takeInFront qw_490 qw_492 qw_11 dX2_take_39)) (s_L (s_iret rfl dX2_take_42))) (s_N (s_L (s_aload_n dX2_take_43 rfl)) (s_L (s_aload_n dX2_take_44 rfl)))))) (s_N (s_N (s_N (s_L (s_iload_n dX2_take_45 rfl)) (s_N (s_L (s_iload_n dX2_take_46 rfl)) (s_L (s_callV (d' := tX2_takeInWord) (mc := 0) (ms := 0) ok_1 cc_X2_take_X2_takeInWord qw_497 qw_499 qw_12 dX2_take_47)))) (s_N (s_N (s_L (s_iret rfl dX2_take_50)) (s_L (s_aload_n dX2_take_51 rfl))) (s_N (s_L (s_iload_n dX2_take_52 rfl)) (s_L (s_iload_n dX2_take_53 rfl))))) (s_N (s_N (s_L (s_callV (d' := tX2_takeInGap) (mc := 0) (ms := 0) ok_1 cc_X2_take_X2_takeInGap qw_559 qw_561 qw_13 dX2_take_54)) (s_N (s_L (s_iret rfl dX2_take_57)) (s_L (s_aload_n dX2_take_58 rfl)))) (s_N (s_N (s_L (s_iload_n dX2_take_59 rfl)) (s_L (s_iload_n dX2_take_60 rfl))) (s_N (s_L (s_callV (d' := tX2_takeInNumber) (mc := 0) (ms := 0) ok_1 cc_X2_take_X2_takeInNumber qw_570 qw_572 qw_15 dX2_take_61)) (s_L (s_iret rfl dX2_take_64))))))
/-! PlateArm$CommandScan.takeInFront -/
theorem dX2_takeInFront_0 : decode cX2_takeInFront 0 = .ok (.iload_n 1, 1) := by decide +kernel
theorem dX2_takeInFront_1 : decode cX2_takeInFront 1 = .ok (.bipush 32, 2) := by decide +kernel
theorem dX2_takeInFront_3 : decode cX2_takeInFront 3 = .ok (.if_icmp .ne 5, 3) := by decide +kernel
theorem dX2_takeInFront_6 : decode cX2_takeInFront 6 = .ok (.iconst (-1), 1) := by decide +kernel
theorem dX2_takeInFront_7 : decode cX2_takeInFront 7 = .ok (.ireturn, 1) := by decide +kernel
theorem dX2_takeInFront_8 : decode cX2_takeInFront 8 = .ok (.iload_n 1, 1) := by decide +kernel
theorem dX2_takeInFront_9 : decode cX2_takeInFront 9 = .ok (.invokestatic 65, 3) := by decide +kernel
theorem dX2_takeInFront_12 : decode cX2_takeInFront 12 = .ok (.ifCond .ne 5, 3) := by decide +kernel
theorem dX2_takeInFront_15 : decode cX2_takeInFront 15 = .ok (.iload_n 2, 1) := by decide +kernel
theorem dX2_takeInFront_16 : decode cX2_takeInFront 16 = .ok (.ireturn, 1) := by decide +kernel
theorem dX2_takeInFront_17 : decode cX2_takeInFront 17 = .ok (.aload_n 0, 1) := by decide +kernel
theorem dX2_takeInFront_18 : decode cX2_takeInFront 18 = .ok (.iconst 1, 1) := by decide +kernel
theorem dX2_takeInFront_19 : decode cX2_takeInFront 19 = .ok (.putfield 24, 3) := by decide +kernel
theorem dX2_takeInFront_22 : decode cX2_takeInFront 22 = .ok (.aload_n 0, 1) := by decide +kernel
theorem dX2_takeInFront_23 : decode cX2_takeInFront 23 = .ok (.iload_n 2, 1) := by decide +kernel
theorem dX2_takeInFront_24 : decode cX2_takeInFront 24 = .ok (.putfield 40, 3) := by decide +kernel
theorem dX2_takeInFront_27 : decode cX2_takeInFront 27 = .ok (.iconst (-1), 1) := by decide +kernel
theorem dX2_takeInFront_28 : decode cX2_takeInFront 28 = .ok (.ireturn, 1) := by decide +kernel
theorem cc_X2_takeInFront_X2_isLetter : CallC tX2_takeInFront tX2_isLetter 1 := ⟨by decide +kernel, by decide +kernel, by decide +kernel, by decide, by decide, qw_77, qw_496⟩
def kX2_takeInFront : Nat → WOp := cN 15 (cN 6 (cN 1 (cN 0 (cL 0 (o_iload 1 1)) (cL 1 (o_push 3 32))) (cN 3 (cL 3 (o_icmp_ne 8 6)) (cL 6 (o_push 7 (-1))))) (cN 8 (cN 7 (cL 7 (o_iret)) (cL 8 (o_iload 9 1))) (cN 9 (cL 9 (o_callS 12 1 tX2_isLetter 0 0)) (cN 12 (cL 12 (o_if_ne 17 15)) (cL 15 (o_iload 16 2)))))) (cN 19 (cN 17 (cN 16 (cL 16 (o_iret)) (cL 17 (o_aload 18 0))) (cN 18 (cL 18 (o_push 19 1)) (cL 19 (o_puti 22 1 2)))) (cN 23 (cN 22 (cL 22 (o_aload 23 0)) (cL 23 (o_iload 24 2))) (cN 24 (cL 24 (o_puti 27 1 3)) (cN 27 (cL 27 (o_push 28 (-1))) (cL 28 (o_iret))))))
theorem sX2_takeInFront : ∀ pc, Snd tX2_takeInFront G1 pc (kX2_takeInFront pc) := s_N (s_N (s_N (s_N (s_L (s_iload_n dX2_takeInFront_0 rfl)) (s_L (s_bipush dX2_takeInFront_1 (by decide +kernel)))) (s_N (s_L (s_o_icmp_ne dX2_takeInFront_3 (by decide))) (s_L (s_iconst dX2_takeInFront_6 (by decide +kernel))))) (s_N (s_N (s_L (s_iret rfl dX2_takeInFront_7)) (s_L (s_iload_n dX2_takeInFront_8 rfl))) (s_N (s_L (s_callS (d' := tX2_isLetter) (mc := 0) (ms := 0) cc_X2_takeInFront_X2_isLetter qw_494 qw_495 dX2_takeInFront_9)) (s_N (s_L (s_o_if_ne dX2_takeInFront_12 (by decide))) (s_L (s_iload_n dX2_takeInFront_15 rfl)))))) (s_N (s_N (s_N (s_L (s_iret rfl dX2_takeInFront_16)) (s_L (s_aload_n dX2_takeInFront_17 rfl))) (s_N (s_L (s_iconst dX2_takeInFront_18 (by decide +kernel))) (s_L (s_puti ok_1 (k := 2) (by decide) rfl (Or.inl rfl) dX2_takeInFront_19 qw_302)))) (s_N (s_N (s_L (s_aload_n dX2_takeInFront_22 rfl)) (s_L (s_iload_n dX2_takeInFront_23 rfl))) (s_N (s_L (s_puti ok_1 (k := 3) (by decide) rfl (Or.inl rfl) dX2_takeInFront_24 qw_303)) (s_N (s_L (s_iconst dX2_takeInFront_27 (by decide +kernel))) (s_L (s_iret rfl dX2_takeInFront_28))))))
/-! PlateArm$CommandScan.takeInWord -/
theorem dX2_takeInWord_0 : decode cX2_takeInWord 0 = .ok (.iload_n 2, 1) := by decide +kernel
theorem dX2_takeInWord_1 : decode cX2_takeInWord 1 = .ok (.invokestatic 65, 3) := by decide +kernel
theorem dX2_takeInWord_4 : decode cX2_takeInWord 4 = .ok (.ifCond .eq 5, 3) := by decide +kernel
theorem dX2_takeInWord_7 : decode cX2_takeInWord 7 = .ok (.iconst (-1), 1) := by decide +kernel
theorem dX2_takeInWord_8 : decode cX2_takeInWord 8 = .ok (.ireturn, 1) := by decide +kernel
theorem dX2_takeInWord_9 : decode cX2_takeInWord 9 = .ok (.aload_n 0, 1) := by decide +kernel
theorem dX2_takeInWord_10 : decode cX2_takeInWord 10 = .ok (.aload_n 1, 1) := by decide +kernel
theorem dX2_takeInWord_11 : decode cX2_takeInWord 11 = .ok (.aload_n 0, 1) := by decide +kernel
theorem dX2_takeInWord_12 : decode cX2_takeInWord 12 = .ok (.getfield 40, 3) := by decide +kernel
theorem dX2_takeInWord_15 : decode cX2_takeInWord 15 = .ok (.iload_n 3, 1) := by decide +kernel
theorem dX2_takeInWord_16 : decode cX2_takeInWord 16 = .ok (.invokestatic 43, 3) := by decide +kernel
theorem dX2_takeInWord_19 : decode cX2_takeInWord 19 = .ok (.putfield 15, 3) := by decide +kernel
theorem dX2_takeInWord_22 : decode cX2_takeInWord 22 = .ok (.aload_n 0, 1) := by decide +kernel
theorem dX2_takeInWord_23 : decode cX2_takeInWord 23 = .ok (.getfield 15, 3) := by decide +kernel
theorem dX2_takeInWord_26 : decode cX2_takeInWord 26 = .ok (.getstatic 9, 3) := by decide +kernel
theorem dX2_takeInWord_29 : decode cX2_takeInWord 29 = .ok (.if_acmp .ne 8, 3) := by decide +kernel
theorem dX2_takeInWord_32 : decode cX2_takeInWord 32 = .ok (.aload_n 0, 1) := by decide +kernel
theorem dX2_takeInWord_33 : decode cX2_takeInWord 33 = .ok (.getfield 40, 3) := by decide +kernel
theorem dX2_takeInWord_36 : decode cX2_takeInWord 36 = .ok (.ireturn, 1) := by decide +kernel
theorem dX2_takeInWord_37 : decode cX2_takeInWord 37 = .ok (.iload_n 2, 1) := by decide +kernel
theorem dX2_takeInWord_38 : decode cX2_takeInWord 38 = .ok (.bipush 32, 2) := by decide +kernel
theorem dX2_takeInWord_40 : decode cX2_takeInWord 40 = .ok (.if_icmp .eq 5, 3) := by decide +kernel
theorem dX2_takeInWord_43 : decode cX2_takeInWord 43 = .ok (.iload_n 3, 1) := by decide +kernel
theorem dX2_takeInWord_44 : decode cX2_takeInWord 44 = .ok (.ireturn, 1) := by decide +kernel
theorem dX2_takeInWord_45 : decode cX2_takeInWord 45 = .ok (.aload_n 0, 1) := by decide +kernel
theorem dX2_takeInWord_46 : decode cX2_takeInWord 46 = .ok (.iconst 2, 1) := by decide +kernel
theorem dX2_takeInWord_47 : decode cX2_takeInWord 47 = .ok (.putfield 24, 3) := by decide +kernel
theorem dX2_takeInWord_50 : decode cX2_takeInWord 50 = .ok (.aload_n 0, 1) := by decide +kernel
theorem dX2_takeInWord_51 : decode cX2_takeInWord 51 = .ok (.iconst 0, 1) := by decide +kernel
theorem dX2_takeInWord_52 : decode cX2_takeInWord 52 = .ok (.putfield 69, 3) := by decide +kernel
theorem dX2_takeInWord_55 : decode cX2_takeInWord 55 = .ok (.iconst (-1), 1) := by decide +kernel
theorem dX2_takeInWord_56 : decode cX2_takeInWord 56 = .ok (.ireturn, 1) := by decide +kernel
theorem cc_X2_takeInWord_X2_isLetter : CallC tX2_takeInWord tX2_isLetter 1 := ⟨by decide +kernel, by decide +kernel, by decide +kernel, by decide, by decide, qw_77, qw_496⟩
theorem cc_X2_takeInWord_X2_wordIn : CallC tX2_takeInWord tX2_wordIn 3 := ⟨by decide +kernel, by decide +kernel, by decide +kernel, by decide, by decide, qw_77, qw_503⟩
def kX2_takeInWord : Nat → WOp := cN 29 (cN 11 (cN 7 (cN 1 (cN 0 (cL 0 (o_iload 1 2)) (cL 1 (o_callS 4 1 tX2_isLetter 0 0))) (cN 4 (cL 4 (o_if_eq 9 7)) (cL 7 (o_push 8 (-1))))) (cN 9 (cN 8 (cL 8 (o_iret)) (cL 9 (o_aload 10 0))) (cN 10 (cL 10 (o_aload 11 1)) (cL 11 (o_aload 12 0))))) (cN 19 (cN 15 (cN 12 (cL 12 (o_getf 15 1 3)) (cL 15 (o_iload 16 3))) (cN 16 (cL 16 (o_callS 19 3 tX2_wordIn 0 0)) (cL 19 (o_putf 22 1 0 (.object "PlateArm$Word"))))) (cN 23 (cN 22 (cL 22 (o_aload 23 0)) (cL 23 (o_getf 26 1 0))) (cN 26 (cL 26 (o_gets 29 (.float 0))) (cL 29 (o_acmp_ne 37 32)))))) (cN 44 (cN 37 (cN 33 (cN 32 (cL 32 (o_aload 33 0)) (cL 33 (o_getf 36 1 3))) (cN 36 (cL 36 (o_iret)) (cL 37 (o_iload 38 2)))) (cN 40 (cN 38 (cL 38 (o_push 40 32)) (cL 40 (o_icmp_eq 45 43))) (cN 43 (cL 43 (o_iload 44 3)) (cL 44 (o_iret))))) (cN 50 (cN 46 (cN 45 (cL 45 (o_aload 46 0)) (cL 46 (o_push 47 2))) (cN 47 (cL 47 (o_puti 50 1 2)) (cL 50 (o_aload 51 0)))) (cN 52 (cN 51 (cL 51 (o_push 52 0)) (cL 52 (o_puti 55 1 4))) (cN 55 (cL 55 (o_push 56 (-1))) (cL 56 (o_iret))))))
theorem sX2_takeInWord : ∀ pc, Snd tX2_takeInWord G1 pc (kX2_takeInWord pc) := s_N (s_N (s_N (s_N (s_N (s_L (s_iload_n dX2_takeInWord_0 rfl)) (s_L (s_callS (d' := tX2_isLetter) (mc := 0) (ms := 0) cc_X2_takeInWord_X2_isLetter qw_494 qw_495 dX2_takeInWord_1))) (s_N (s_L (s_o_if_eq dX2_takeInWord_4 (by decide))) (s_L (s_iconst dX2_takeInWord_7 (by decide +kernel))))) (s_N (s_N (s_L (s_iret rfl dX2_takeInWord_8)) (s_L (s_aload_n dX2_takeInWord_9 rfl))) (s_N (s_L (s_aload_n dX2_takeInWord_10 rfl)) (s_L (s_aload_n dX2_takeInWord_11 rfl))))) (s_N (s_N (s_N (s_L (s_getf ok_1 (k := 3) (by decide) dX2_takeInWord_12 qw_303)) (s_L (s_iload_n dX2_takeInWord_15 rfl))) (s_N (s_L (s_callS (d' := tX2_wordIn) (mc := 0) (ms := 0) cc_X2_takeInWord_X2_wordIn qw_501 qw_502 dX2_takeInWord_16)) (s_L (s_putf ok_1 (k := 0) (by decide) rfl (Or.inl rfl) dX2_takeInWord_19 qw_298)))) (s_N (s_N (s_L (s_aload_n dX2_takeInWord_22 rfl)) (s_L (s_getf ok_1 (k := 0) (by decide) dX2_takeInWord_23 qw_298))) (s_N (s_L (s_gets (C := "PlateArm$Word") (nm := "UNKNOWN") (dsc := "LPlateArm$Word;") (by simp [EZ]) dX2_takeInWord_26 qw_296)) (s_L (s_o_acmp_ne dX2_takeInWord_29 (by decide))))))) (s_N (s_N (s_N (s_N (s_L (s_aload_n dX2_takeInWord_32 rfl)) (s_L (s_getf ok_1 (k := 3) (by decide) dX2_takeInWord_33 qw_303))) (s_N (s_L (s_iret rfl dX2_takeInWord_36)) (s_L (s_iload_n dX2_takeInWord_37 rfl)))) (s_N (s_N (s_L (s_bipush dX2_takeInWord_38 (by decide +kernel))) (s_L (s_o_icmp_eq dX2_takeInWord_40 (by decide)))) (s_N (s_L (s_iload_n dX2_takeInWord_43 rfl)) (s_L (s_iret rfl dX2_takeInWord_44))))) (s_N (s_N (s_N (s_L (s_aload_n dX2_takeInWord_45 rfl)) (s_L (s_iconst dX2_takeInWord_46 (by decide +kernel)))) (s_N (s_L (s_puti ok_1 (k := 2) (by decide) rfl (Or.inl rfl) dX2_takeInWord_47 qw_302)) (s_L (s_aload_n dX2_takeInWord_50 rfl)))) (s_N (s_N (s_L (s_iconst dX2_takeInWord_51 (by decide +kernel))) (s_L (s_puti ok_1 (k := 4) (by decide) rfl (Or.inl rfl) dX2_takeInWord_52 qw_304))) (s_N (s_L (s_iconst dX2_takeInWord_55 (by decide +kernel))) (s_L (s_iret rfl dX2_takeInWord_56))))))
/-! PlateArm$CommandScan.takeInGap -/
theorem dX2_takeInGap_0 : decode cX2_takeInGap 0 = .ok (.iload_n 1, 1) := by decide +kernel
theorem dX2_takeInGap_1 : decode cX2_takeInGap 1 = .ok (.invokestatic 72, 3) := by decide +kernel
theorem dX2_takeInGap_4 : decode cX2_takeInGap 4 = .ok (.ifCond .ne 10, 3) := by decide +kernel
theorem dX2_takeInGap_7 : decode cX2_takeInGap 7 = .ok (.aload_n 0, 1) := by decide +kernel
theorem dX2_takeInGap_8 : decode cX2_takeInGap 8 = .ok (.iload_n 1, 1) := by decide +kernel
theorem dX2_takeInGap_9 : decode cX2_takeInGap 9 = .ok (.iload_n 2, 1) := by decide +kernel
theorem dX2_takeInGap_10 : decode cX2_takeInGap 10 = .ok (.invokevirtual 75, 3) := by decide +kernel
theorem dX2_takeInGap_13 : decode cX2_takeInGap 13 = .ok (.ireturn, 1) := by decide +kernel
theorem dX2_takeInGap_14 : decode cX2_takeInGap 14 = .ok (.aload_n 0, 1) := by decide +kernel
theorem dX2_takeInGap_15 : decode cX2_takeInGap 15 = .ok (.getfield 69, 3) := by decide +kernel
theorem dX2_takeInGap_18 : decode cX2_takeInGap 18 = .ok (.aload_n 0, 1) := by decide +kernel
theorem dX2_takeInGap_19 : decode cX2_takeInGap 19 = .ok (.getfield 15, 3) := by decide +kernel
theorem dX2_takeInGap_22 : decode cX2_takeInGap 22 = .ok (.getfield 78, 3) := by decide +kernel
theorem dX2_takeInGap_25 : decode cX2_takeInGap 25 = .ok (.if_icmp .ge 11, 3) := by decide +kernel
theorem dX2_takeInGap_28 : decode cX2_takeInGap 28 = .ok (.aload_n 0, 1) := by decide +kernel
theorem dX2_takeInGap_29 : decode cX2_takeInGap 29 = .ok (.getfield 69, 3) := by decide +kernel
theorem dX2_takeInGap_32 : decode cX2_takeInGap 32 = .ok (.iconst 3, 1) := by decide +kernel
theorem dX2_takeInGap_33 : decode cX2_takeInGap 33 = .ok (.if_icmp .lt 5, 3) := by decide +kernel
theorem dX2_takeInGap_36 : decode cX2_takeInGap 36 = .ok (.iload_n 2, 1) := by decide +kernel
theorem dX2_takeInGap_37 : decode cX2_takeInGap 37 = .ok (.ireturn, 1) := by decide +kernel
theorem dX2_takeInGap_38 : decode cX2_takeInGap 38 = .ok (.aload_n 0, 1) := by decide +kernel
theorem dX2_takeInGap_39 : decode cX2_takeInGap 39 = .ok (.iconst 3, 1) := by decide +kernel
theorem dX2_takeInGap_40 : decode cX2_takeInGap 40 = .ok (.putfield 24, 3) := by decide +kernel
theorem dX2_takeInGap_43 : decode cX2_takeInGap 43 = .ok (.aload_n 0, 1) := by decide +kernel
theorem dX2_takeInGap_44 : decode cX2_takeInGap 44 = .ok (.getfield 20, 3) := by decide +kernel
theorem dX2_takeInGap_47 : decode cX2_takeInGap 47 = .ok (.aload_n 0, 1) := by decide +kernel
theorem dX2_takeInGap_48 : decode cX2_takeInGap 48 = .ok (.getfield 69, 3) := by decide +kernel
theorem dX2_takeInGap_51 : decode cX2_takeInGap 51 = .ok (.iload_n 1, 1) := by decide +kernel
theorem dX2_takeInGap_52 : decode cX2_takeInGap 52 = .ok (.bipush 48, 2) := by decide +kernel
theorem dX2_takeInGap_54 : decode cX2_takeInGap 54 = .ok (.isub, 1) := by decide +kernel
theorem dX2_takeInGap_55 : decode cX2_takeInGap 55 = .ok (.iastore, 1) := by decide +kernel
theorem dX2_takeInGap_56 : decode cX2_takeInGap 56 = .ok (.aload_n 0, 1) := by decide +kernel
theorem dX2_takeInGap_57 : decode cX2_takeInGap 57 = .ok (.dup, 1) := by decide +kernel
theorem dX2_takeInGap_58 : decode cX2_takeInGap 58 = .ok (.getfield 69, 3) := by decide +kernel
theorem dX2_takeInGap_61 : decode cX2_takeInGap 61 = .ok (.iconst 1, 1) := by decide +kernel
theorem dX2_takeInGap_62 : decode cX2_takeInGap 62 = .ok (.iadd, 1) := by decide +kernel
theorem dX2_takeInGap_63 : decode cX2_takeInGap 63 = .ok (.putfield 69, 3) := by decide +kernel
theorem dX2_takeInGap_66 : decode cX2_takeInGap 66 = .ok (.aload_n 0, 1) := by decide +kernel
theorem dX2_takeInGap_67 : decode cX2_takeInGap 67 = .ok (.iconst 1, 1) := by decide +kernel
theorem dX2_takeInGap_68 : decode cX2_takeInGap 68 = .ok (.putfield 80, 3) := by decide +kernel
theorem dX2_takeInGap_71 : decode cX2_takeInGap 71 = .ok (.iconst (-1), 1) := by decide +kernel
theorem dX2_takeInGap_72 : decode cX2_takeInGap 72 = .ok (.ireturn, 1) := by decide +kernel
theorem cc_X2_takeInGap_X2_isDigit : CallC tX2_takeInGap tX2_isDigit 1 := ⟨by decide +kernel, by decide +kernel, by decide +kernel, by decide, by decide, qw_77, qw_565⟩
theorem cc_X2_takeInGap_X2_takeBehindNumber : CallC tX2_takeInGap tX2_takeBehindNumber 2 := ⟨by decide +kernel, by decide +kernel, by decide +kernel, by decide, by decide, qw_77, qw_569⟩
def kX2_takeInGap : Nat → WOp := cN 38 (cN 15 (cN 8 (cN 1 (cN 0 (cL 0 (o_iload 1 1)) (cL 1 (o_callS 4 1 tX2_isDigit 0 0))) (cN 4 (cL 4 (o_if_ne 14 7)) (cN 7 (cL 7 (o_aload 8 0)) (cL 8 (o_iload 9 1))))) (cN 10 (cN 9 (cL 9 (o_iload 10 2)) (cL 10 (o_callV 13 1 2 tX2_takeBehindNumber 0 0))) (cN 13 (cL 13 (o_iret)) (cN 14 (cL 14 (o_aload 15 0)) (cL 15 (o_getf 18 1 4)))))) (cN 28 (cN 19 (cN 18 (cL 18 (o_aload 19 0)) (cL 19 (o_getf 22 1 0))) (cN 22 (cL 22 (o_getx 25 0 [.int 0, .int 2, .int 3, .int 1, .int 2, .int 1])) (cN 25 (cL 25 (o_icmp_ge 36 28)) (cL 28 (o_aload 29 0))))) (cN 33 (cN 29 (cL 29 (o_getf 32 1 4)) (cN 32 (cL 32 (o_push 33 3)) (cL 33 (o_icmp_lt 38 36)))) (cN 36 (cL 36 (o_iload 37 2)) (cN 37 (cL 37 (o_iret)) (cL 38 (o_aload 39 0))))))) (cN 55 (cN 47 (cN 40 (cN 39 (cL 39 (o_push 40 3)) (cL 40 (o_puti 43 1 2))) (cN 43 (cL 43 (o_aload 44 0)) (cN 44 (cL 44 (o_getf 47 1 1)) (cL 47 (o_aload 48 0))))) (cN 51 (cN 48 (cL 48 (o_getf 51 1 4)) (cL 51 (o_iload 52 1))) (cN 52 (cL 52 (o_push 54 48)) (cN 54 (cL 54 (o_isub 55)) (cL 55 (o_iast 56)))))) (cN 62 (cN 57 (cN 56 (cL 56 (o_aload 57 0)) (cL 57 (o_dup 58))) (cN 58 (cL 58 (o_getf 61 1 4)) (cN 61 (cL 61 (o_push 62 1)) (cL 62 (o_iadd 63))))) (cN 67 (cN 63 (cL 63 (o_puti 66 1 4)) (cN 66 (cL 66 (o_aload 67 0)) (cL 67 (o_push 68 1)))) (cN 68 (cL 68 (o_puti 71 1 5)) (cN 71 (cL 71 (o_push 72 (-1))) (cL 72 (o_iret)))))))
theorem sX2_takeInGap : ∀ pc, Snd tX2_takeInGap G1 pc (kX2_takeInGap pc) := s_N (s_N (s_N (s_N (s_N (s_L (s_iload_n dX2_takeInGap_0 rfl)) (s_L (s_callS (d' := tX2_isDigit) (mc := 0) (ms := 0) cc_X2_takeInGap_X2_isDigit qw_563 qw_564 dX2_takeInGap_1))) (s_N (s_L (s_o_if_ne dX2_takeInGap_4 (by decide))) (s_N (s_L (s_aload_n dX2_takeInGap_7 rfl)) (s_L (s_iload_n dX2_takeInGap_8 rfl))))) (s_N (s_N (s_L (s_iload_n dX2_takeInGap_9 rfl)) (s_L (s_callV (d' := tX2_takeBehindNumber) (mc := 0) (ms := 0) ok_1 cc_X2_takeInGap_X2_takeBehindNumber qw_566 qw_568 qw_14 dX2_takeInGap_10))) (s_N (s_L (s_iret rfl dX2_takeInGap_13)) (s_N (s_L (s_aload_n dX2_takeInGap_14 rfl)) (s_L (s_getf ok_1 (k := 4) (by decide) dX2_takeInGap_15 qw_304)))))) (s_N (s_N (s_N (s_L (s_aload_n dX2_takeInGap_18 rfl)) (s_L (s_getf ok_1 (k := 0) (by decide) dX2_takeInGap_19 qw_298))) (s_N (s_L (s_getx (lo := 0) xg_numbers dX2_takeInGap_22 qw_1281)) (s_N (s_L (s_o_icmp_ge dX2_takeInGap_25 (by decide))) (s_L (s_aload_n dX2_takeInGap_28 rfl))))) (s_N (s_N (s_L (s_getf ok_1 (k := 4) (by decide) dX2_takeInGap_29 qw_304)) (s_N (s_L (s_iconst dX2_takeInGap_32 (by decide +kernel))) (s_L (s_o_icmp_lt dX2_takeInGap_33 (by decide))))) (s_N (s_L (s_iload_n dX2_takeInGap_36 rfl)) (s_N (s_L (s_iret rfl dX2_takeInGap_37)) (s_L (s_aload_n dX2_takeInGap_38 rfl))))))) (s_N (s_N (s_N (s_N (s_L (s_iconst dX2_takeInGap_39 (by decide +kernel))) (s_L (s_puti ok_1 (k := 2) (by decide) rfl (Or.inl rfl) dX2_takeInGap_40 qw_302))) (s_N (s_L (s_aload_n dX2_takeInGap_43 rfl)) (s_N (s_L (s_getf ok_1 (k := 1) (by decide) dX2_takeInGap_44 qw_300)) (s_L (s_aload_n dX2_takeInGap_47 rfl))))) (s_N (s_N (s_L (s_getf ok_1 (k := 4) (by decide) dX2_takeInGap_48 qw_304)) (s_L (s_iload_n dX2_takeInGap_51 rfl))) (s_N (s_L (s_bipush dX2_takeInGap_52 (by decide +kernel))) (s_N (s_L (s_o_isub dX2_takeInGap_54)) (s_L (s_iast dX2_takeInGap_55)))))) (s_N (s_N (s_N (s_L (s_aload_n dX2_takeInGap_56 rfl)) (s_L (s_o_dup dX2_takeInGap_57))) (s_N (s_L (s_getf ok_1 (k := 4) (by decide) dX2_takeInGap_58 qw_304)) (s_N (s_L (s_iconst dX2_takeInGap_61 (by decide +kernel))) (s_L (s_o_iadd dX2_takeInGap_62))))) (s_N (s_N (s_L (s_puti ok_1 (k := 4) (by decide) rfl (Or.inl rfl) dX2_takeInGap_63 qw_304)) (s_N (s_L (s_aload_n dX2_takeInGap_66 rfl)) (s_L (s_iconst dX2_takeInGap_67 (by decide +kernel))))) (s_N (s_L (s_puti ok_1 (k := 5) (by decide) rfl (Or.inl rfl) dX2_takeInGap_68 qw_305)) (s_N (s_L (s_iconst dX2_takeInGap_71 (by decide +kernel))) (s_L (s_iret rfl dX2_takeInGap_72)))))))
/-! PlateArm$CommandScan.takeInNumber -/
theorem dX2_takeInNumber_0 : decode cX2_takeInNumber 0 = .ok (.iload_n 1, 1) := by decide +kernel
theorem dX2_takeInNumber_1 : decode cX2_takeInNumber 1 = .ok (.invokestatic 72, 3) := by decide +kernel
theorem dX2_takeInNumber_4 : decode cX2_takeInNumber 4 = .ok (.ifCond .ne 10, 3) := by decide +kernel
theorem dX2_takeInNumber_7 : decode cX2_takeInNumber 7 = .ok (.aload_n 0, 1) := by decide +kernel
theorem dX2_takeInNumber_8 : decode cX2_takeInNumber 8 = .ok (.iload_n 1, 1) := by decide +kernel
theorem dX2_takeInNumber_9 : decode cX2_takeInNumber 9 = .ok (.iload_n 2, 1) := by decide +kernel
theorem dX2_takeInNumber_10 : decode cX2_takeInNumber 10 = .ok (.invokevirtual 75, 3) := by decide +kernel
theorem dX2_takeInNumber_13 : decode cX2_takeInNumber 13 = .ok (.ireturn, 1) := by decide +kernel
theorem dX2_takeInNumber_14 : decode cX2_takeInNumber 14 = .ok (.aload_n 0, 1) := by decide +kernel
theorem dX2_takeInNumber_15 : decode cX2_takeInNumber 15 = .ok (.getfield 80, 3) := by decide +kernel
theorem dX2_takeInNumber_18 : decode cX2_takeInNumber 18 = .ok (.iconst 4, 1) := by decide +kernel
theorem dX2_takeInNumber_19 : decode cX2_takeInNumber 19 = .ok (.if_icmp .ge 11, 3) := by decide +kernel
theorem dX2_takeInNumber_22 : decode cX2_takeInNumber 22 = .ok (.aload_n 0, 1) := by decide +kernel
theorem dX2_takeInNumber_23 : decode cX2_takeInNumber 23 = .ok (.getfield 69, 3) := by decide +kernel
theorem dX2_takeInNumber_26 : decode cX2_takeInNumber 26 = .ok (.iconst 1, 1) := by decide +kernel
theorem dX2_takeInNumber_27 : decode cX2_takeInNumber 27 = .ok (.if_icmp .ge 5, 3) := by decide +kernel
theorem dX2_takeInNumber_30 : decode cX2_takeInNumber 30 = .ok (.iload_n 2, 1) := by decide +kernel
theorem dX2_takeInNumber_31 : decode cX2_takeInNumber 31 = .ok (.ireturn, 1) := by decide +kernel
theorem dX2_takeInNumber_32 : decode cX2_takeInNumber 32 = .ok (.aload_n 0, 1) := by decide +kernel
theorem dX2_takeInNumber_33 : decode cX2_takeInNumber 33 = .ok (.getfield 20, 3) := by decide +kernel
theorem dX2_takeInNumber_36 : decode cX2_takeInNumber 36 = .ok (.aload_n 0, 1) := by decide +kernel
theorem dX2_takeInNumber_37 : decode cX2_takeInNumber 37 = .ok (.getfield 69, 3) := by decide +kernel
theorem dX2_takeInNumber_40 : decode cX2_takeInNumber 40 = .ok (.iconst 1, 1) := by decide +kernel
theorem dX2_takeInNumber_41 : decode cX2_takeInNumber 41 = .ok (.isub, 1) := by decide +kernel
theorem dX2_takeInNumber_42 : decode cX2_takeInNumber 42 = .ok (.bipush 10, 2) := by decide +kernel
theorem dX2_takeInNumber_44 : decode cX2_takeInNumber 44 = .ok (.aload_n 0, 1) := by decide +kernel
theorem dX2_takeInNumber_45 : decode cX2_takeInNumber 45 = .ok (.getfield 20, 3) := by decide +kernel
theorem dX2_takeInNumber_48 : decode cX2_takeInNumber 48 = .ok (.aload_n 0, 1) := by decide +kernel
theorem dX2_takeInNumber_49 : decode cX2_takeInNumber 49 = .ok (.getfield 69, 3) := by decide +kernel
theorem dX2_takeInNumber_52 : decode cX2_takeInNumber 52 = .ok (.iconst 1, 1) := by decide +kernel
theorem dX2_takeInNumber_53 : decode cX2_takeInNumber 53 = .ok (.isub, 1) := by decide +kernel
theorem dX2_takeInNumber_54 : decode cX2_takeInNumber 54 = .ok (.iaload, 1) := by decide +kernel
theorem dX2_takeInNumber_55 : decode cX2_takeInNumber 55 = .ok (.imul, 1) := by decide +kernel
theorem dX2_takeInNumber_56 : decode cX2_takeInNumber 56 = .ok (.iload_n 1, 1) := by decide +kernel
theorem dX2_takeInNumber_57 : decode cX2_takeInNumber 57 = .ok (.iadd, 1) := by decide +kernel
theorem dX2_takeInNumber_58 : decode cX2_takeInNumber 58 = .ok (.bipush 48, 2) := by decide +kernel
theorem dX2_takeInNumber_60 : decode cX2_takeInNumber 60 = .ok (.isub, 1) := by decide +kernel
theorem dX2_takeInNumber_61 : decode cX2_takeInNumber 61 = .ok (.iastore, 1) := by decide +kernel
theorem dX2_takeInNumber_62 : decode cX2_takeInNumber 62 = .ok (.aload_n 0, 1) := by decide +kernel
theorem dX2_takeInNumber_63 : decode cX2_takeInNumber 63 = .ok (.dup, 1) := by decide +kernel
theorem dX2_takeInNumber_64 : decode cX2_takeInNumber 64 = .ok (.getfield 80, 3) := by decide +kernel
theorem dX2_takeInNumber_67 : decode cX2_takeInNumber 67 = .ok (.iconst 1, 1) := by decide +kernel
theorem dX2_takeInNumber_68 : decode cX2_takeInNumber 68 = .ok (.iadd, 1) := by decide +kernel
theorem dX2_takeInNumber_69 : decode cX2_takeInNumber 69 = .ok (.putfield 80, 3) := by decide +kernel
theorem dX2_takeInNumber_72 : decode cX2_takeInNumber 72 = .ok (.iconst (-1), 1) := by decide +kernel
theorem dX2_takeInNumber_73 : decode cX2_takeInNumber 73 = .ok (.ireturn, 1) := by decide +kernel
theorem cc_X2_takeInNumber_X2_isDigit : CallC tX2_takeInNumber tX2_isDigit 1 := ⟨by decide +kernel, by decide +kernel, by decide +kernel, by decide, by decide, qw_77, qw_565⟩
theorem cc_X2_takeInNumber_X2_takeBehindNumber : CallC tX2_takeInNumber tX2_takeBehindNumber 2 := ⟨by decide +kernel, by decide +kernel, by decide +kernel, by decide, by decide, qw_77, qw_569⟩
def kX2_takeInNumber : Nat → WOp := cN 40 (cN 18 (cN 8 (cN 1 (cN 0 (cL 0 (o_iload 1 1)) (cL 1 (o_callS 4 1 tX2_isDigit 0 0))) (cN 4 (cL 4 (o_if_ne 14 7)) (cN 7 (cL 7 (o_aload 8 0)) (cL 8 (o_iload 9 1))))) (cN 13 (cN 9 (cL 9 (o_iload 10 2)) (cN 10 (cL 10 (o_callV 13 1 2 tX2_takeBehindNumber 0 0)) (cL 13 (o_iret)))) (cN 14 (cL 14 (o_aload 15 0)) (cN 15 (cL 15 (o_getf 18 1 5)) (cL 18 (o_push 19 4)))))) (cN 30 (cN 23 (cN 19 (cL 19 (o_icmp_ge 30 22)) (cN 22 (cL 22 (o_aload 23 0)) (cL 23 (o_getf 26 1 4)))) (cN 26 (cL 26 (o_push 27 1)) (cN 27 (cL 27 (o_icmp_ge 32 30)) (cL 30 (o_iload 31 2))))) (cN 33 (cN 31 (cL 31 (o_iret)) (cN 32 (cL 32 (o_aload 33 0)) (cL 33 (o_getf 36 1 1)))) (cN 36 (cL 36 (o_aload 37 0)) (cN 37 (cL 37 (o_getf 40 1 4)) (cL 40 (o_push 41 1))))))) (cN 56 (cN 48 (cN 42 (cN 41 (cL 41 (o_isub 42)) (cL 42 (o_push 44 10))) (cN 44 (cL 44 (o_aload 45 0)) (cN 45 (cL 45 (o_getf 48 1 1)) (cL 48 (o_aload 49 0))))) (cN 53 (cN 49 (cL 49 (o_getf 52 1 4)) (cN 52 (cL 52 (o_push 53 1)) (cL 53 (o_isub 54)))) (cN 54 (cL 54 (o_iald 55)) (cN 55 (cL 55 (o_imul 56)) (cL 56 (o_iload 57 1)))))) (cN 63 (cN 60 (cN 57 (cL 57 (o_iadd 58)) (cN 58 (cL 58 (o_push 60 48)) (cL 60 (o_isub 61)))) (cN 61 (cL 61 (o_iast 62)) (cN 62 (cL 62 (o_aload 63 0)) (cL 63 (o_dup 64))))) (cN 68 (cN 64 (cL 64 (o_getf 67 1 5)) (cN 67 (cL 67 (o_push 68 1)) (cL 68 (o_iadd 69)))) (cN 69 (cL 69 (o_puti 72 1 5)) (cN 72 (cL 72 (o_push 73 (-1))) (cL 73 (o_iret)))))))
theorem sX2_takeInNumber : ∀ pc, Snd tX2_takeInNumber G1 pc (kX2_takeInNumber pc) := s_N (s_N (s_N (s_N (s_N (s_L (s_iload_n dX2_takeInNumber_0 rfl)) (s_L (s_callS (d' := tX2_isDigit) (mc := 0) (ms := 0) cc_X2_takeInNumber_X2_isDigit qw_563 qw_564 dX2_takeInNumber_1))) (s_N (s_L (s_o_if_ne dX2_takeInNumber_4 (by decide))) (s_N (s_L (s_aload_n dX2_takeInNumber_7 rfl)) (s_L (s_iload_n dX2_takeInNumber_8 rfl))))) (s_N (s_N (s_L (s_iload_n dX2_takeInNumber_9 rfl)) (s_N (s_L (s_callV (d' := tX2_takeBehindNumber) (mc := 0) (ms := 0) ok_1 cc_X2_takeInNumber_X2_takeBehindNumber qw_566 qw_568 qw_14 dX2_takeInNumber_10)) (s_L (s_iret rfl dX2_takeInNumber_13)))) (s_N (s_L (s_aload_n dX2_takeInNumber_14 rfl)) (s_N (s_L (s_getf ok_1 (k := 5) (by decide) dX2_takeInNumber_15 qw_305)) (s_L (s_iconst dX2_takeInNumber_18 (by decide +kernel))))))) (s_N (s_N (s_N (s_L (s_o_icmp_ge dX2_takeInNumber_19 (by decide))) (s_N (s_L (s_aload_n dX2_takeInNumber_22 rfl)) (s_L (s_getf ok_1 (k := 4) (by decide) dX2_takeInNumber_23 qw_304)))) (s_N (s_L (s_iconst dX2_takeInNumber_26 (by decide +kernel))) (s_N (s_L (s_o_icmp_ge dX2_takeInNumber_27 (by decide))) (s_L (s_iload_n dX2_takeInNumber_30 rfl))))) (s_N (s_N (s_L (s_iret rfl dX2_takeInNumber_31)) (s_N (s_L (s_aload_n dX2_takeInNumber_32 rfl)) (s_L (s_getf ok_1 (k := 1) (by decide) dX2_takeInNumber_33 qw_300)))) (s_N (s_L (s_aload_n dX2_takeInNumber_36 rfl)) (s_N (s_L (s_getf ok_1 (k := 4) (by decide) dX2_takeInNumber_37 qw_304)) (s_L (s_iconst dX2_takeInNumber_40 (by decide +kernel)))))))) (s_N (s_N (s_N (s_N (s_L (s_o_isub dX2_takeInNumber_41)) (s_L (s_bipush dX2_takeInNumber_42 (by decide +kernel)))) (s_N (s_L (s_aload_n dX2_takeInNumber_44 rfl)) (s_N (s_L (s_getf ok_1 (k := 1) (by decide) dX2_takeInNumber_45 qw_300)) (s_L (s_aload_n dX2_takeInNumber_48 rfl))))) (s_N (s_N (s_L (s_getf ok_1 (k := 4) (by decide) dX2_takeInNumber_49 qw_304)) (s_N (s_L (s_iconst dX2_takeInNumber_52 (by decide +kernel))) (s_L (s_o_isub dX2_takeInNumber_53)))) (s_N (s_L (s_iald dX2_takeInNumber_54)) (s_N (s_L (s_o_imul dX2_takeInNumber_55)) (s_L (s_iload_n dX2_takeInNumber_56 rfl)))))) (s_N (s_N (s_N (s_L (s_o_iadd dX2_takeInNumber_57)) (s_N (s_L (s_bipush dX2_takeInNumber_58 (by decide +kernel))) (s_L (s_o_isub dX2_takeInNumber_60)))) (s_N (s_L (s_iast dX2_takeInNumber_61)) (s_N (s_L (s_aload_n dX2_takeInNumber_62 rfl)) (s_L (s_o_dup dX2_takeInNumber_63))))) (s_N (s_N (s_L (s_getf ok_1 (k := 5) (by decide) dX2_takeInNumber_64 qw_305)) (s_N (s_L (s_iconst dX2_takeInNumber_67 (by decide +kernel))) (s_L (s_o_iadd dX2_takeInNumber_68)))) (s_N (s_L (s_puti ok_1 (k := 5) (by decide) rfl (Or.inl rfl) dX2_takeInNumber_69 qw_305)) (s_N (s_L (s_iconst dX2_takeInNumber_72 (by decide +kernel))) (s_L (s_iret rfl dX2_takeInNumber_73)))))))
/-! PlateArm$CommandScan.takeBehindNumber -/
theorem dX2_takeBehindNumber_0 : decode cX2_takeBehindNumber 0 = .ok (.iload_n 1, 1) := by decide +kernel
theorem dX2_takeBehindNumber_1 : decode cX2_takeBehindNumber 1 = .ok (.bipush 32, 2) := by decide +kernel
theorem dX2_takeBehindNumber_3 : decode cX2_takeBehindNumber 3 = .ok (.if_icmp .ne 10, 3) := by decide +kernel
theorem dX2_takeBehindNumber_6 : decode cX2_takeBehindNumber 6 = .ok (.aload_n 0, 1) := by decide +kernel
theorem dX2_takeBehindNumber_7 : decode cX2_takeBehindNumber 7 = .ok (.iconst 2, 1) := by decide +kernel
theorem dX2_takeBehindNumber_8 : decode cX2_takeBehindNumber 8 = .ok (.putfield 24, 3) := by decide +kernel
theorem dX2_takeBehindNumber_11 : decode cX2_takeBehindNumber 11 = .ok (.iconst (-1), 1) := by decide +kernel
theorem dX2_takeBehindNumber_12 : decode cX2_takeBehindNumber 12 = .ok (.ireturn, 1) := by decide +kernel
theorem dX2_takeBehindNumber_13 : decode cX2_takeBehindNumber 13 = .ok (.iload_n 1, 1) := by decide +kernel
theorem dX2_takeBehindNumber_14 : decode cX2_takeBehindNumber 14 = .ok (.bipush 59, 2) := by decide +kernel
theorem dX2_takeBehindNumber_16 : decode cX2_takeBehindNumber 16 = .ok (.if_icmp .ne 24, 3) := by decide +kernel
theorem dX2_takeBehindNumber_19 : decode cX2_takeBehindNumber 19 = .ok (.aload_n 0, 1) := by decide +kernel
theorem dX2_takeBehindNumber_20 : decode cX2_takeBehindNumber 20 = .ok (.getfield 69, 3) := by decide +kernel
theorem dX2_takeBehindNumber_23 : decode cX2_takeBehindNumber 23 = .ok (.aload_n 0, 1) := by decide +kernel
theorem dX2_takeBehindNumber_24 : decode cX2_takeBehindNumber 24 = .ok (.getfield 15, 3) := by decide +kernel
theorem dX2_takeBehindNumber_27 : decode cX2_takeBehindNumber 27 = .ok (.getfield 78, 3) := by decide +kernel
theorem dX2_takeBehindNumber_30 : decode cX2_takeBehindNumber 30 = .ok (.if_icmp .ne 10, 3) := by decide +kernel
theorem dX2_takeBehindNumber_33 : decode cX2_takeBehindNumber 33 = .ok (.aload_n 0, 1) := by decide +kernel
theorem dX2_takeBehindNumber_34 : decode cX2_takeBehindNumber 34 = .ok (.iconst 0, 1) := by decide +kernel
theorem dX2_takeBehindNumber_35 : decode cX2_takeBehindNumber 35 = .ok (.putfield 24, 3) := by decide +kernel
theorem dX2_takeBehindNumber_38 : decode cX2_takeBehindNumber 38 = .ok (.iconst (-1), 1) := by decide +kernel
theorem dX2_takeBehindNumber_39 : decode cX2_takeBehindNumber 39 = .ok (.ireturn, 1) := by decide +kernel
theorem dX2_takeBehindNumber_40 : decode cX2_takeBehindNumber 40 = .ok (.iload_n 2, 1) := by decide +kernel
theorem dX2_takeBehindNumber_41 : decode cX2_takeBehindNumber 41 = .ok (.ireturn, 1) := by decide +kernel
def kX2_takeBehindNumber : Nat → WOp := cN 19 (cN 8 (cN 3 (cN 0 (cL 0 (o_iload 1 1)) (cN 1 (cL 1 (o_push 3 32)) (cL 3 (o_icmp_ne 13 6)))) (cN 6 (cL 6 (o_aload 7 0)) (cN 7 (cL 7 (o_push 8 2)) (cL 8 (o_puti 11 1 2))))) (cN 13 (cN 11 (cL 11 (o_push 12 (-1))) (cN 12 (cL 12 (o_iret)) (cL 13 (o_iload 14 1)))) (cN 14 (cL 14 (o_push 16 59)) (cN 16 (cL 16 (o_icmp_ne 40 19)) (cL 19 (o_aload 20 0)))))) (cN 33 (cN 24 (cN 20 (cL 20 (o_getf 23 1 4)) (cN 23 (cL 23 (o_aload 24 0)) (cL 24 (o_getf 27 1 0)))) (cN 27 (cL 27 (o_getx 30 0 [.int 0, .int 2, .int 3, .int 1, .int 2, .int 1])) (cN 30 (cL 30 (o_icmp_ne 40 33)) (cL 33 (o_aload 34 0))))) (cN 38 (cN 34 (cL 34 (o_push 35 0)) (cN 35 (cL 35 (o_puti 38 1 2)) (cL 38 (o_push 39 (-1))))) (cN 39 (cL 39 (o_iret)) (cN 40 (cL 40 (o_iload 41 2)) (cL 41 (o_iret))))))
theorem sX2_takeBehindNumber : ∀ pc, Snd tX2_takeBehindNumber G1 pc (kX2_takeBehindNumber pc) := s_N (s_N (s_N (s_N (s_L (s_iload_n dX2_takeBehindNumber_0 rfl)) (s_N (s_L (s_bipush dX2_takeBehindNumber_1 (by decide +kernel))) (s_L (s_o_icmp_ne dX2_takeBehindNumber_3 (by decide))))) (s_N (s_L (s_aload_n dX2_takeBehindNumber_6 rfl)) (s_N (s_L (s_iconst dX2_takeBehindNumber_7 (by decide +kernel))) (s_L (s_puti ok_1 (k := 2) (by decide) rfl (Or.inl rfl) dX2_takeBehindNumber_8 qw_302))))) (s_N (s_N (s_L (s_iconst dX2_takeBehindNumber_11 (by decide +kernel))) (s_N (s_L (s_iret rfl dX2_takeBehindNumber_12)) (s_L (s_iload_n dX2_takeBehindNumber_13 rfl)))) (s_N (s_L (s_bipush dX2_takeBehindNumber_14 (by decide +kernel))) (s_N (s_L (s_o_icmp_ne dX2_takeBehindNumber_16 (by decide))) (s_L (s_aload_n dX2_takeBehindNumber_19 rfl)))))) (s_N (s_N (s_N (s_L (s_getf ok_1 (k := 4) (by decide) dX2_takeBehindNumber_20 qw_304)) (s_N (s_L (s_aload_n dX2_takeBehindNumber_23 rfl)) (s_L (s_getf ok_1 (k := 0) (by decide) dX2_takeBehindNumber_24 qw_298)))) (s_N (s_L (s_getx (lo := 0) xg_numbers dX2_takeBehindNumber_27 qw_1281)) (s_N (s_L (s_o_icmp_ne dX2_takeBehindNumber_30 (by decide))) (s_L (s_aload_n dX2_takeBehindNumber_33 rfl))))) (s_N (s_N (s_L (s_iconst dX2_takeBehindNumber_34 (by decide +kernel))) (s_N (s_L (s_puti ok_1 (k := 2) (by decide) rfl (Or.inl rfl) dX2_takeBehindNumber_35 qw_302)) (s_L (s_iconst dX2_takeBehindNumber_38 (by decide +kernel))))) (s_N (s_L (s_iret rfl dX2_takeBehindNumber_39)) (s_N (s_L (s_iload_n dX2_takeBehindNumber_40 rfl)) (s_L (s_iret rfl dX2_takeBehindNumber_41))))))
/-! PlateArm$CommandScan.wordIn -/
theorem dX2_wordIn_0 : decode cX2_wordIn 0 = .ok (.iconst 0, 1) := by decide +kernel
theorem dX2_wordIn_1 : decode cX2_wordIn 1 = .ok (.istore_n 3, 1) := by decide +kernel
theorem dX2_wordIn_2 : decode cX2_wordIn 2 = .ok (.iload_n 3, 1) := by decide +kernel
theorem dX2_wordIn_3 : decode cX2_wordIn 3 = .ok (.getstatic 83, 3) := by decide +kernel
theorem dX2_wordIn_6 : decode cX2_wordIn 6 = .ok (.arraylength, 1) := by decide +kernel
theorem dX2_wordIn_7 : decode cX2_wordIn 7 = .ok (.if_icmp .ge 32, 3) := by decide +kernel
theorem dX2_wordIn_10 : decode cX2_wordIn 10 = .ok (.aload_n 0, 1) := by decide +kernel
theorem dX2_wordIn_11 : decode cX2_wordIn 11 = .ok (.getstatic 83, 3) := by decide +kernel
theorem dX2_wordIn_14 : decode cX2_wordIn 14 = .ok (.iload_n 3, 1) := by decide +kernel
theorem dX2_wordIn_15 : decode cX2_wordIn 15 = .ok (.aaload, 1) := by decide +kernel
theorem dX2_wordIn_16 : decode cX2_wordIn 16 = .ok (.getfield 87, 3) := by decide +kernel
theorem dX2_wordIn_19 : decode cX2_wordIn 19 = .ok (.iload_n 1, 1) := by decide +kernel
theorem dX2_wordIn_20 : decode cX2_wordIn 20 = .ok (.iload_n 2, 1) := by decide +kernel
theorem dX2_wordIn_21 : decode cX2_wordIn 21 = .ok (.invokevirtual 91, 3) := by decide +kernel
theorem dX2_wordIn_24 : decode cX2_wordIn 24 = .ok (.ifCond .eq 9, 3) := by decide +kernel
theorem dX2_wordIn_27 : decode cX2_wordIn 27 = .ok (.getstatic 83, 3) := by decide +kernel
theorem dX2_wordIn_30 : decode cX2_wordIn 30 = .ok (.iload_n 3, 1) := by decide +kernel
theorem dX2_wordIn_31 : decode cX2_wordIn 31 = .ok (.aaload, 1) := by decide +kernel
theorem dX2_wordIn_32 : decode cX2_wordIn 32 = .ok (.areturn, 1) := by decide +kernel
theorem dX2_wordIn_33 : decode cX2_wordIn 33 = .ok (.iinc 3 1, 3) := by decide +kernel
theorem dX2_wordIn_36 : decode cX2_wordIn 36 = .ok (.goto (-34), 3) := by decide +kernel
theorem dX2_wordIn_39 : decode cX2_wordIn 39 = .ok (.getstatic 9, 3) := by decide +kernel
theorem dX2_wordIn_42 : decode cX2_wordIn 42 = .ok (.areturn, 1) := by decide +kernel
theorem cc_X2_wordIn_X3_holds : CallC tX2_wordIn tX3_holds 3 := ⟨by decide +kernel, by decide +kernel, by decide +kernel, by decide, by decide, qw_76, qw_509⟩
def kX2_wordIn : Nat → WOp := cN 16 (cN 6 (cN 1 (cN 0 (cL 0 (o_push 1 0)) (cL 1 (o_istore 2 3))) (cN 2 (cL 2 (o_iload 3 3)) (cN 3 (cL 3 (o_gets 6 (.float 21))) (cL 6 (o_xlen 7 21 [6]))))) (cN 11 (cN 7 (cL 7 (o_icmp_ge 39 10)) (cN 10 (cL 10 (o_aload 11 0)) (cL 11 (o_gets 14 (.float 21))))) (cN 14 (cL 14 (o_iload 15 3)) (cN 15 (cL 15 (o_xaald 16)) (cL 16 (o_getx 19 0 [.float 6, .float 7, .float 8, .float 9, .float 10, .float 11])))))) (cN 30 (cN 21 (cN 19 (cL 19 (o_iload 20 1)) (cN 20 (cL 20 (o_iload 21 2)) (cL 21 (o_callV 24 2 3 tX3_holds 0 0)))) (cN 24 (cL 24 (o_if_eq 33 27)) (cN 27 (cL 27 (o_gets 30 (.float 21))) (cL 30 (o_iload 31 3))))) (cN 33 (cN 31 (cL 31 (o_xaald 32)) (cN 32 (cL 32 (o_aret)) (cL 33 (o_iinc 36 3 1)))) (cN 36 (cL 36 (o_goto 2)) (cN 39 (cL 39 (o_gets 42 (.float 0))) (cL 42 (o_aret))))))
theorem sX2_wordIn : ∀ pc, Snd tX2_wordIn G1 pc (kX2_wordIn pc) := s_N (s_N (s_N (s_N (s_L (s_iconst dX2_wordIn_0 (by decide +kernel))) (s_L (s_istore_n dX2_wordIn_1 rfl (by decide)))) (s_N (s_L (s_iload_n dX2_wordIn_2 rfl)) (s_N (s_L (s_gets (C := "PlateArm$CommandScan") (nm := "WORDS") (dsc := "[LPlateArm$Word;") (by simp [EZ]) dX2_wordIn_3 qw_504)) (s_L (s_xlen (lo := 21) xl_words dX2_wordIn_6))))) (s_N (s_N (s_L (s_o_icmp_ge dX2_wordIn_7 (by decide))) (s_N (s_L (s_aload_n dX2_wordIn_10 rfl)) (s_L (s_gets (C := "PlateArm$CommandScan") (nm := "WORDS") (dsc := "[LPlateArm$Word;") (by simp [EZ]) dX2_wordIn_11 qw_504)))) (s_N (s_L (s_iload_n dX2_wordIn_14 rfl)) (s_N (s_L (s_xaald dX2_wordIn_15)) (s_L (s_getx (lo := 0) xg_letters dX2_wordIn_16 qw_1278)))))) (s_N (s_N (s_N (s_L (s_iload_n dX2_wordIn_19 rfl)) (s_N (s_L (s_iload_n dX2_wordIn_20 rfl)) (s_L (s_callV (d' := tX3_holds) (mc := 0) (ms := 0) ok_2 cc_X2_wordIn_X3_holds qw_506 qw_507 qw_508 dX2_wordIn_21)))) (s_N (s_L (s_o_if_eq dX2_wordIn_24 (by decide))) (s_N (s_L (s_gets (C := "PlateArm$CommandScan") (nm := "WORDS") (dsc := "[LPlateArm$Word;") (by simp [EZ]) dX2_wordIn_27 qw_504)) (s_L (s_iload_n dX2_wordIn_30 rfl))))) (s_N (s_N (s_L (s_xaald dX2_wordIn_31)) (s_N (s_L (s_aret rfl dX2_wordIn_32)) (s_L (s_iinc (v := 1) dX2_wordIn_33 (by decide +kernel) (by decide))))) (s_N (s_L (s_o_goto dX2_wordIn_36 (by decide))) (s_N (s_L (s_gets (C := "PlateArm$Word") (nm := "UNKNOWN") (dsc := "LPlateArm$Word;") (by simp [EZ]) dX2_wordIn_39 qw_296)) (s_L (s_aret rfl dX2_wordIn_42))))))
/-! PlateArm$CommandScan.isLetter -/
theorem dX2_isLetter_0 : decode cX2_isLetter 0 = .ok (.iload_n 0, 1) := by decide +kernel
theorem dX2_isLetter_1 : decode cX2_isLetter 1 = .ok (.bipush 97, 2) := by decide +kernel
theorem dX2_isLetter_3 : decode cX2_isLetter 3 = .ok (.if_icmp .lt 13, 3) := by decide +kernel
theorem dX2_isLetter_6 : decode cX2_isLetter 6 = .ok (.iload_n 0, 1) := by decide +kernel
theorem dX2_isLetter_7 : decode cX2_isLetter 7 = .ok (.bipush 122, 2) := by decide +kernel
theorem dX2_isLetter_9 : decode cX2_isLetter 9 = .ok (.if_icmp .gt 7, 3) := by decide +kernel
theorem dX2_isLetter_12 : decode cX2_isLetter 12 = .ok (.iconst 1, 1) := by decide +kernel
theorem dX2_isLetter_13 : decode cX2_isLetter 13 = .ok (.goto 4, 3) := by decide +kernel
theorem dX2_isLetter_16 : decode cX2_isLetter 16 = .ok (.iconst 0, 1) := by decide +kernel
theorem dX2_isLetter_17 : decode cX2_isLetter 17 = .ok (.ireturn, 1) := by decide +kernel
def kX2_isLetter : Nat → WOp := cN 7 (cN 1 (cN 0 (cL 0 (o_iload 1 0)) (cL 1 (o_push 3 97))) (cN 3 (cL 3 (o_icmp_lt 16 6)) (cN 6 (cL 6 (o_iload 7 0)) (cL 7 (o_push 9 122))))) (cN 12 (cN 9 (cL 9 (o_icmp_gt 16 12)) (cL 12 (o_push 13 1))) (cN 13 (cL 13 (o_goto 17)) (cN 16 (cL 16 (o_push 17 0)) (cL 17 (o_zret)))))
theorem sX2_isLetter : ∀ pc, Snd tX2_isLetter G1 pc (kX2_isLetter pc) := s_N (s_N (s_N (s_L (s_iload_n dX2_isLetter_0 rfl)) (s_L (s_bipush dX2_isLetter_1 (by decide +kernel)))) (s_N (s_L (s_o_icmp_lt dX2_isLetter_3 (by decide))) (s_N (s_L (s_iload_n dX2_isLetter_6 rfl)) (s_L (s_bipush dX2_isLetter_7 (by decide +kernel)))))) (s_N (s_N (s_L (s_o_icmp_gt dX2_isLetter_9 (by decide))) (s_L (s_iconst dX2_isLetter_12 (by decide +kernel)))) (s_N (s_L (s_o_goto dX2_isLetter_13 (by decide))) (s_N (s_L (s_iconst dX2_isLetter_16 (by decide +kernel))) (s_L (s_zret rfl dX2_isLetter_17)))))
/-! PlateArm$CommandScan.isDigit -/
theorem dX2_isDigit_0 : decode cX2_isDigit 0 = .ok (.iload_n 0, 1) := by decide +kernel
theorem dX2_isDigit_1 : decode cX2_isDigit 1 = .ok (.bipush 48, 2) := by decide +kernel
theorem dX2_isDigit_3 : decode cX2_isDigit 3 = .ok (.if_icmp .lt 13, 3) := by decide +kernel
theorem dX2_isDigit_6 : decode cX2_isDigit 6 = .ok (.iload_n 0, 1) := by decide +kernel
theorem dX2_isDigit_7 : decode cX2_isDigit 7 = .ok (.bipush 57, 2) := by decide +kernel
theorem dX2_isDigit_9 : decode cX2_isDigit 9 = .ok (.if_icmp .gt 7, 3) := by decide +kernel
theorem dX2_isDigit_12 : decode cX2_isDigit 12 = .ok (.iconst 1, 1) := by decide +kernel
theorem dX2_isDigit_13 : decode cX2_isDigit 13 = .ok (.goto 4, 3) := by decide +kernel
theorem dX2_isDigit_16 : decode cX2_isDigit 16 = .ok (.iconst 0, 1) := by decide +kernel
theorem dX2_isDigit_17 : decode cX2_isDigit 17 = .ok (.ireturn, 1) := by decide +kernel
def kX2_isDigit : Nat → WOp := cN 7 (cN 1 (cN 0 (cL 0 (o_iload 1 0)) (cL 1 (o_push 3 48))) (cN 3 (cL 3 (o_icmp_lt 16 6)) (cN 6 (cL 6 (o_iload 7 0)) (cL 7 (o_push 9 57))))) (cN 12 (cN 9 (cL 9 (o_icmp_gt 16 12)) (cL 12 (o_push 13 1))) (cN 13 (cL 13 (o_goto 17)) (cN 16 (cL 16 (o_push 17 0)) (cL 17 (o_zret)))))
theorem sX2_isDigit : ∀ pc, Snd tX2_isDigit G1 pc (kX2_isDigit pc) := s_N (s_N (s_N (s_L (s_iload_n dX2_isDigit_0 rfl)) (s_L (s_bipush dX2_isDigit_1 (by decide +kernel)))) (s_N (s_L (s_o_icmp_lt dX2_isDigit_3 (by decide))) (s_N (s_L (s_iload_n dX2_isDigit_6 rfl)) (s_L (s_bipush dX2_isDigit_7 (by decide +kernel)))))) (s_N (s_N (s_L (s_o_icmp_gt dX2_isDigit_9 (by decide))) (s_L (s_iconst dX2_isDigit_12 (by decide +kernel)))) (s_N (s_L (s_o_goto dX2_isDigit_13 (by decide))) (s_N (s_L (s_iconst dX2_isDigit_16 (by decide +kernel))) (s_L (s_zret rfl dX2_isDigit_17)))))
