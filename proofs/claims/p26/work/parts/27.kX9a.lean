/-! PlateArm.<init> -/
theorem dX9_init_0 : decode cX9_init 0 = .ok (.aload_n 0, 1) := by decide +kernel
theorem dX9_init_1 : decode cX9_init 1 = .ok (.invokespecial 1, 3) := by decide +kernel
theorem dX9_init_4 : decode cX9_init 4 = .ok (.aload_n 0, 1) := by decide +kernel
theorem dX9_init_5 : decode cX9_init 5 = .ok (.new 7, 3) := by decide +kernel
theorem dX9_init_8 : decode cX9_init 8 = .ok (.dup, 1) := by decide +kernel
theorem dX9_init_9 : decode cX9_init 9 = .ok (.invokespecial 9, 3) := by decide +kernel
theorem dX9_init_12 : decode cX9_init 12 = .ok (.putfield 10, 3) := by decide +kernel
theorem dX9_init_15 : decode cX9_init 15 = .ok (.aload_n 0, 1) := by decide +kernel
theorem dX9_init_16 : decode cX9_init 16 = .ok (.new 7, 3) := by decide +kernel
theorem dX9_init_19 : decode cX9_init 19 = .ok (.dup, 1) := by decide +kernel
theorem dX9_init_20 : decode cX9_init 20 = .ok (.invokespecial 9, 3) := by decide +kernel
theorem dX9_init_23 : decode cX9_init 23 = .ok (.putfield 16, 3) := by decide +kernel
theorem dX9_init_26 : decode cX9_init 26 = .ok (.aload_n 0, 1) := by decide +kernel
theorem dX9_init_27 : decode cX9_init 27 = .ok (.iconst 4, 1) := by decide +kernel
theorem dX9_init_28 : decode cX9_init 28 = .ok (.anewarray 7, 3) := by decide +kernel
theorem dX9_init_31 : decode cX9_init 31 = .ok (.putfield 19, 3) := by decide +kernel
theorem dX9_init_34 : decode cX9_init 34 = .ok (.aload_n 0, 1) := by decide +kernel
theorem dX9_init_35 : decode cX9_init 35 = .ok (.iconst 4, 1) := by decide +kernel
theorem dX9_init_36 : decode cX9_init 36 = .ok (.bipush 6, 2) := by decide +kernel
theorem dX9_init_38 : decode cX9_init 38 = .ok (.multianewarray 23 2, 4) := by decide +kernel
theorem dX9_init_42 : decode cX9_init 42 = .ok (.putfield 25, 3) := by decide +kernel
theorem dX9_init_45 : decode cX9_init 45 = .ok (.aload_n 0, 1) := by decide +kernel
theorem dX9_init_46 : decode cX9_init 46 = .ok (.new 28, 3) := by decide +kernel
theorem dX9_init_49 : decode cX9_init 49 = .ok (.dup, 1) := by decide +kernel
theorem dX9_init_50 : decode cX9_init 50 = .ok (.invokespecial 30, 3) := by decide +kernel
theorem dX9_init_53 : decode cX9_init 53 = .ok (.putfield 31, 3) := by decide +kernel
theorem dX9_init_56 : decode cX9_init 56 = .ok (.aload_n 0, 1) := by decide +kernel
theorem dX9_init_57 : decode cX9_init 57 = .ok (.new 35, 3) := by decide +kernel
theorem dX9_init_60 : decode cX9_init 60 = .ok (.dup, 1) := by decide +kernel
theorem dX9_init_61 : decode cX9_init 61 = .ok (.invokespecial 37, 3) := by decide +kernel
theorem dX9_init_64 : decode cX9_init 64 = .ok (.putfield 38, 3) := by decide +kernel
theorem dX9_init_67 : decode cX9_init 67 = .ok (.iconst 0, 1) := by decide +kernel
theorem dX9_init_68 : decode cX9_init 68 = .ok (.istore_n 1, 1) := by decide +kernel
theorem dX9_init_69 : decode cX9_init 69 = .ok (.iload_n 1, 1) := by decide +kernel
theorem dX9_init_70 : decode cX9_init 70 = .ok (.iconst 4, 1) := by decide +kernel
theorem dX9_init_71 : decode cX9_init 71 = .ok (.if_icmp .ge 22, 3) := by decide +kernel
theorem dX9_init_74 : decode cX9_init 74 = .ok (.aload_n 0, 1) := by decide +kernel
theorem dX9_init_75 : decode cX9_init 75 = .ok (.getfield 19, 3) := by decide +kernel
theorem dX9_init_78 : decode cX9_init 78 = .ok (.iload_n 1, 1) := by decide +kernel
theorem dX9_init_79 : decode cX9_init 79 = .ok (.new 7, 3) := by decide +kernel
theorem dX9_init_82 : decode cX9_init 82 = .ok (.dup, 1) := by decide +kernel
theorem dX9_init_83 : decode cX9_init 83 = .ok (.invokespecial 9, 3) := by decide +kernel
theorem dX9_init_86 : decode cX9_init 86 = .ok (.aastore, 1) := by decide +kernel
theorem dX9_init_87 : decode cX9_init 87 = .ok (.iinc 1 1, 3) := by decide +kernel
theorem dX9_init_90 : decode cX9_init 90 = .ok (.goto (-21), 3) := by decide +kernel
theorem dX9_init_93 : decode cX9_init 93 = .ok (.return_, 1) := by decide +kernel
theorem cc_X9_init_X6_init : CallC tX9_init tX6_init 0 := ⟨by decide +kernel, by decide +kernel, by decide +kernel, by decide, by decide, qw_16, qw_45⟩
theorem cc_X9_init_X3_init : CallC tX9_init tX3_init 0 := ⟨by decide +kernel, by decide +kernel, by decide +kernel, by decide, by decide, qw_21, qw_216⟩
theorem cc_X9_init_X2_init : CallC tX9_init tX2_init 0 := ⟨by decide +kernel, by decide +kernel, by decide +kernel, by decide, by decide, qw_22, qw_230⟩
def kX9_init : Nat → WOp := cN 46 (cN 20 (cN 8 (cN 1 (cN 0 (cL 0 (o_aload 1 0)) (cL 1 (o_objinit 4))) (cN 4 (cL 4 (o_aload 5 0)) (cN 5 (cL 5 (o_new 8 5 8 [.int 0, .int 0, .int 0, .null, .null, .null, .null, .null])) (cL 8 (o_dup 9))))) (cN 15 (cN 9 (cL 9 (o_callI 12 0 tX6_init 11 135)) (cN 12 (cL 12 (o_putf 15 7 0 (.object "PlateArm$State"))) (cL 15 (o_aload 16 0)))) (cN 16 (cL 16 (o_new 19 5 8 [.int 0, .int 0, .int 0, .null, .null, .null, .null, .null])) (cN 19 (cL 19 (o_dup 20)) (cL 20 (o_callI 23 0 tX6_init 11 135)))))) (cN 34 (cN 27 (cN 23 (cL 23 (o_putf 26 7 1 (.object "PlateArm$State"))) (cN 26 (cL 26 (o_aload 27 0)) (cL 27 (o_push 28 4)))) (cN 28 (cL 28 (o_anewa 31 4)) (cN 31 (cL 31 (o_putf 34 7 2 (.array (.object "PlateArm$State")))) (cL 34 (o_aload 35 0))))) (cN 38 (cN 35 (cL 35 (o_push 36 4)) (cN 36 (cL 36 (o_push 38 6)) (cL 38 (o_mna 42 4 6)))) (cN 42 (cL 42 (o_putf 45 7 4 (.array (.array .int)))) (cN 45 (cL 45 (o_aload 46 0)) (cL 46 (o_new 49 2 2 [.int 0, .null]))))))) (cN 69 (cN 57 (cN 50 (cN 49 (cL 49 (o_dup 50)) (cL 50 (o_callI 53 0 tX3_init 1 150))) (cN 53 (cL 53 (o_putf 56 7 5 (.object "PlateArm$CommandText"))) (cN 56 (cL 56 (o_aload 57 0)) (cL 57 (o_new 60 1 6 [.null, .null, .int 0, .int 0, .int 0, .int 0]))))) (cN 64 (cN 60 (cL 60 (o_dup 61)) (cN 61 (cL 61 (o_callI 64 0 tX2_init 1 3)) (cL 64 (o_putf 67 7 6 (.object "PlateArm$CommandScan"))))) (cN 67 (cL 67 (o_push 68 0)) (cN 68 (cL 68 (o_istore 69 1)) (cL 69 (o_iload 70 1)))))) (cN 79 (cN 74 (cN 70 (cL 70 (o_push 71 4)) (cN 71 (cL 71 (o_icmp_ge 93 74)) (cL 74 (o_aload 75 0)))) (cN 75 (cL 75 (o_getf 78 7 2)) (cN 78 (cL 78 (o_iload 79 1)) (cL 79 (o_new 82 5 8 [.int 0, .int 0, .int 0, .null, .null, .null, .null, .null]))))) (cN 86 (cN 82 (cL 82 (o_dup 83)) (cN 83 (cL 83 (o_callI 86 0 tX6_init 11 135)) (cL 86 (o_aast 87)))) (cN 87 (cL 87 (o_iinc 90 1 1)) (cN 90 (cL 90 (o_goto 69)) (cL 93 (o_vret)))))))
theorem sX9_init : ∀ pc, Snd tX9_init G1 pc (kX9_init pc) := s_N (s_N (s_N (s_N (s_N (s_L (s_aload_n dX9_init_0 rfl)) (s_L (s_objinit qw_38 qw_39 qw_40 (by decide) (by decide) dX9_init_1))) (s_N (s_L (s_aload_n dX9_init_4 rfl)) (s_N (s_L (s_new ok_5 (fs := [.int 0, .int 0, .int 0, .null, .null, .null, .null, .null]) (fun j hj => by rcases (show j = 0 ∨ j = 1 ∨ j = 2 ∨ j = 3 ∨ j = 4 ∨ j = 5 ∨ j = 6 ∨ j = 7 by omega) with rfl | rfl | rfl | rfl | rfl | rfl | rfl | rfl <;> rfl) (by decide) qw_41 qw_42 qw_16 dX9_init_5)) (s_L (s_o_dup dX9_init_8))))) (s_N (s_N (s_L (s_callI (d' := tX6_init) (mc := 11) (ms := 135) cc_X9_init_X6_init rfl rfl (Or.inr ⟨"PlateArm", by simp [EWn, tX9_init, tX6_init, RX9, RX6, yX6_init, yX1_init, yX2_init, yX3_init, yX4_init, yX5_init, yX7_init, yX9_init]⟩) qw_44 dX9_init_9)) (s_N (s_L (s_putf ok_7 (k := 0) (by decide) rfl (Or.inr ⟨rfl, rfl, rfl⟩) dX9_init_12 qw_250)) (s_L (s_aload_n dX9_init_15 rfl)))) (s_N (s_L (s_new ok_5 (fs := [.int 0, .int 0, .int 0, .null, .null, .null, .null, .null]) (fun j hj => by rcases (show j = 0 ∨ j = 1 ∨ j = 2 ∨ j = 3 ∨ j = 4 ∨ j = 5 ∨ j = 6 ∨ j = 7 by omega) with rfl | rfl | rfl | rfl | rfl | rfl | rfl | rfl <;> rfl) (by decide) qw_41 qw_42 qw_16 dX9_init_16)) (s_N (s_L (s_o_dup dX9_init_19)) (s_L (s_callI (d' := tX6_init) (mc := 11) (ms := 135) cc_X9_init_X6_init rfl rfl (Or.inr ⟨"PlateArm", by simp [EWn, tX9_init, tX6_init, RX9, RX6, yX6_init, yX1_init, yX2_init, yX3_init, yX4_init, yX5_init, yX7_init, yX9_init]⟩) qw_44 dX9_init_20)))))) (s_N (s_N (s_N (s_L (s_putf ok_7 (k := 1) (by decide) rfl (Or.inr ⟨rfl, rfl, rfl⟩) dX9_init_23 qw_251)) (s_N (s_L (s_aload_n dX9_init_26 rfl)) (s_L (s_iconst dX9_init_27 (by decide +kernel))))) (s_N (s_L (s_anewa (N := 4) (by decide) qw_41 dX9_init_28)) (s_N (s_L (s_putf ok_7 (k := 2) (by decide) rfl (Or.inr ⟨rfl, rfl, rfl⟩) dX9_init_31 qw_252)) (s_L (s_aload_n dX9_init_34 rfl))))) (s_N (s_N (s_L (s_iconst dX9_init_35 (by decide +kernel))) (s_N (s_L (s_bipush dX9_init_36 (by decide +kernel))) (s_L (s_mna (N := 4) (K := 6) (by decide) (by decide) qw_210 qw_79 dX9_init_38)))) (s_N (s_L (s_putf ok_7 (k := 4) (by decide) rfl (Or.inr ⟨rfl, rfl, rfl⟩) dX9_init_42 qw_254)) (s_N (s_L (s_aload_n dX9_init_45 rfl)) (s_L (s_new ok_2 (fs := [.int 0, .null]) (fun j hj => by rcases (show j = 0 ∨ j = 1 by omega) with rfl | rfl <;> rfl) (by decide) qw_212 qw_213 qw_21 dX9_init_46))))))) (s_N (s_N (s_N (s_N (s_L (s_o_dup dX9_init_49)) (s_L (s_callI (d' := tX3_init) (mc := 1) (ms := 150) cc_X9_init_X3_init rfl rfl (Or.inr ⟨"PlateArm", by simp [EWn, tX9_init, tX3_init, RX9, RX6, yX6_init, yX1_init, yX2_init, yX3_init, yX4_init, yX5_init, yX7_init, yX9_init]⟩) qw_215 dX9_init_50))) (s_N (s_L (s_putf ok_7 (k := 5) (by decide) rfl (Or.inr ⟨rfl, rfl, rfl⟩) dX9_init_53 qw_255)) (s_N (s_L (s_aload_n dX9_init_56 rfl)) (s_L (s_new ok_1 (fs := [.null, .null, .int 0, .int 0, .int 0, .int 0]) (fun j hj => by rcases (show j = 0 ∨ j = 1 ∨ j = 2 ∨ j = 3 ∨ j = 4 ∨ j = 5 by omega) with rfl | rfl | rfl | rfl | rfl | rfl <;> rfl) (by decide) qw_226 qw_227 qw_22 dX9_init_57))))) (s_N (s_N (s_L (s_o_dup dX9_init_60)) (s_N (s_L (s_callI (d' := tX2_init) (mc := 1) (ms := 3) cc_X9_init_X2_init rfl rfl (Or.inr ⟨"PlateArm", by simp [EWn, tX9_init, tX2_init, RX9, RX6, yX6_init, yX1_init, yX2_init, yX3_init, yX4_init, yX5_init, yX7_init, yX9_init]⟩) qw_229 dX9_init_61)) (s_L (s_putf ok_7 (k := 6) (by decide) rfl (Or.inr ⟨rfl, rfl, rfl⟩) dX9_init_64 qw_256)))) (s_N (s_L (s_iconst dX9_init_67 (by decide +kernel))) (s_N (s_L (s_istore_n dX9_init_68 rfl (by decide))) (s_L (s_iload_n dX9_init_69 rfl)))))) (s_N (s_N (s_N (s_L (s_iconst dX9_init_70 (by decide +kernel))) (s_N (s_L (s_o_icmp_ge dX9_init_71 (by decide))) (s_L (s_aload_n dX9_init_74 rfl)))) (s_N (s_L (s_getf ok_7 (k := 2) (by decide) dX9_init_75 qw_252)) (s_N (s_L (s_iload_n dX9_init_78 rfl)) (s_L (s_new ok_5 (fs := [.int 0, .int 0, .int 0, .null, .null, .null, .null, .null]) (fun j hj => by rcases (show j = 0 ∨ j = 1 ∨ j = 2 ∨ j = 3 ∨ j = 4 ∨ j = 5 ∨ j = 6 ∨ j = 7 by omega) with rfl | rfl | rfl | rfl | rfl | rfl | rfl | rfl <;> rfl) (by decide) qw_41 qw_42 qw_16 dX9_init_79))))) (s_N (s_N (s_L (s_o_dup dX9_init_82)) (s_N (s_L (s_callI (d' := tX6_init) (mc := 11) (ms := 135) cc_X9_init_X6_init rfl rfl (Or.inr ⟨"PlateArm", by simp [EWn, tX9_init, tX6_init, RX9, RX6, yX6_init, yX1_init, yX2_init, yX3_init, yX4_init, yX5_init, yX7_init, yX9_init]⟩) qw_44 dX9_init_83)) (s_L (s_aast ok_5 dX9_init_86)))) (s_N (s_L (s_iinc (v := 1) dX9_init_87 (by decide +kernel) (by decide))) (s_N (s_L (s_o_goto dX9_init_90 (by decide))) (s_L (s_vret rfl dX9_init_93)))))))
/-! PlateArm.plate -/
theorem dX9_plate_0 : decode cX9_plate 0 = .ok (.iload_n 1, 1) := by decide +kernel
theorem dX9_plate_1 : decode cX9_plate 1 = .ok (.iload_n 2, 1) := by decide +kernel
theorem dX9_plate_2 : decode cX9_plate 2 = .ok (.invokestatic 42, 3) := by decide +kernel
theorem dX9_plate_5 : decode cX9_plate 5 = .ok (.ifCond .ne 11, 3) := by decide +kernel
theorem dX9_plate_8 : decode cX9_plate 8 = .ok (.new 46, 3) := by decide +kernel
theorem dX9_plate_11 : decode cX9_plate 11 = .ok (.dup, 1) := by decide +kernel
theorem dX9_plate_12 : decode cX9_plate 12 = .ok (.invokespecial 48, 3) := by decide +kernel
theorem dX9_plate_15 : decode cX9_plate 15 = .ok (.athrow, 1) := by decide +kernel
theorem dX9_plate_16 : decode cX9_plate 16 = .ok (.aload_n 0, 1) := by decide +kernel
theorem dX9_plate_17 : decode cX9_plate 17 = .ok (.invokevirtual 49, 3) := by decide +kernel
theorem dX9_plate_20 : decode cX9_plate 20 = .ok (.aload_n 0, 1) := by decide +kernel
theorem dX9_plate_21 : decode cX9_plate 21 = .ok (.getfield 10, 3) := by decide +kernel
theorem dX9_plate_24 : decode cX9_plate 24 = .ok (.getfield 52, 3) := by decide +kernel
theorem dX9_plate_27 : decode cX9_plate 27 = .ok (.getfield 56, 3) := by decide +kernel
theorem dX9_plate_30 : decode cX9_plate 30 = .ok (.istore_n 3, 1) := by decide +kernel
theorem dX9_plate_31 : decode cX9_plate 31 = .ok (.aload_n 0, 1) := by decide +kernel
theorem dX9_plate_32 : decode cX9_plate 32 = .ok (.getfield 10, 3) := by decide +kernel
theorem dX9_plate_35 : decode cX9_plate 35 = .ok (.iload_n 1, 1) := by decide +kernel
theorem dX9_plate_36 : decode cX9_plate 36 = .ok (.iload_n 2, 1) := by decide +kernel
theorem dX9_plate_37 : decode cX9_plate 37 = .ok (.invokevirtual 62, 3) := by decide +kernel
theorem dX9_plate_40 : decode cX9_plate 40 = .ok (.iload_n 3, 1) := by decide +kernel
theorem dX9_plate_41 : decode cX9_plate 41 = .ok (.ireturn, 1) := by decide +kernel
theorem thr_X9_plate_8 : ThrOk tX9_plate 46 48 "java/lang/IllegalArgumentException" := ⟨thf_48.1, qw_295, qw_28, thf_48.2.1, thf_48.2.2.1, thf_48.2.2.2.1, thf_48.2.2.2.2, by decide, by decide⟩
theorem cc_X9_plate_X9_plateFits : CallC tX9_plate tX9_plateFits 2 := ⟨by decide +kernel, by decide +kernel, by decide +kernel, by decide, by decide, qw_15, qw_294⟩
theorem cc_X9_plate_X9_save : CallC tX9_plate tX9_save 0 := ⟨by decide +kernel, by decide +kernel, by decide +kernel, by decide, by decide, qw_15, qw_361⟩
theorem cc_X9_plate_X6_putIn : CallC tX9_plate tX6_putIn 2 := ⟨by decide +kernel, by decide +kernel, by decide +kernel, by decide, by decide, qw_16, qw_394⟩
def kX9_plate : Nat → WOp := cN 21 (cN 8 (cN 1 (cN 0 (cL 0 (o_iload 1 1)) (cL 1 (o_iload 2 2))) (cN 2 (cL 2 (o_callS 5 2 tX9_plateFits 0 0)) (cN 5 (cL 5 (o_if_ne 16 8)) (cL 8 (o_throw "java/lang/IllegalArgumentException"))))) (cN 16 (cN 11 (cL 11 (o_dup 12)) (cL 16 (o_aload 17 0))) (cN 17 (cL 17 (o_callV 20 7 0 tX9_save 0 0)) (cN 20 (cL 20 (o_aload 21 0)) (cL 21 (o_getf 24 7 0)))))) (cN 32 (cN 27 (cN 24 (cL 24 (o_getf 27 5 5)) (cL 27 (o_getf 30 4 0))) (cN 30 (cL 30 (o_istore 31 3)) (cN 31 (cL 31 (o_aload 32 0)) (cL 32 (o_getf 35 7 0))))) (cN 36 (cN 35 (cL 35 (o_iload 36 1)) (cL 36 (o_iload 37 2))) (cN 37 (cL 37 (o_callV 40 5 2 tX6_putIn 0 0)) (cN 40 (cL 40 (o_iload 41 3)) (cL 41 (o_iret))))))
theorem sX9_plate : ∀ pc, Snd tX9_plate G1 pc (kX9_plate pc) := s_N (s_N (s_N (s_N (s_L (s_iload_n dX9_plate_0 rfl)) (s_L (s_iload_n dX9_plate_1 rfl))) (s_N (s_L (s_callS (d' := tX9_plateFits) (mc := 0) (ms := 0) cc_X9_plate_X9_plateFits qw_292 qw_293 dX9_plate_2)) (s_N (s_L (s_o_if_ne dX9_plate_5 (by decide))) (s_L (s_throw (thr_X9_plate_8) dX9_plate_8 dX9_plate_11 dX9_plate_12 dX9_plate_15))))) (s_N (s_N (s_L (s_o_dup dX9_plate_11)) (s_L (s_aload_n dX9_plate_16 rfl))) (s_N (s_L (s_callV (d' := tX9_save) (mc := 0) (ms := 0) ok_7 cc_X9_plate_X9_save qw_358 qw_360 qw_1 dX9_plate_17)) (s_N (s_L (s_aload_n dX9_plate_20 rfl)) (s_L (s_getf ok_7 (k := 0) (by decide) dX9_plate_21 qw_250)))))) (s_N (s_N (s_N (s_L (s_getf ok_5 (k := 5) (by decide) dX9_plate_24 qw_187)) (s_L (s_getf ok_4 (k := 0) (by decide) dX9_plate_27 qw_87))) (s_N (s_L (s_istore_n dX9_plate_30 rfl (by decide))) (s_N (s_L (s_aload_n dX9_plate_31 rfl)) (s_L (s_getf ok_7 (k := 0) (by decide) dX9_plate_32 qw_250))))) (s_N (s_N (s_L (s_iload_n dX9_plate_35 rfl)) (s_L (s_iload_n dX9_plate_36 rfl))) (s_N (s_L (s_callV (d' := tX6_putIn) (mc := 0) (ms := 0) ok_5 cc_X9_plate_X6_putIn qw_391 qw_392 qw_393 dX9_plate_37)) (s_N (s_L (s_iload_n dX9_plate_40 rfl)) (s_L (s_iret rfl dX9_plate_41))))))
/-! PlateArm.request -/
theorem dX9_request_0 : decode cX9_request 0 = .ok (.aload_n 0, 1) := by decide +kernel
theorem dX9_request_1 : decode cX9_request 1 = .ok (.iload_n 1, 1) := by decide +kernel
theorem dX9_request_2 : decode cX9_request 2 = .ok (.iload_n 2, 1) := by decide +kernel
theorem dX9_request_3 : decode cX9_request 3 = .ok (.iload_n 3, 1) := by decide +kernel
theorem dX9_request_4 : decode cX9_request 4 = .ok (.invokevirtual 66, 3) := by decide +kernel
theorem dX9_request_7 : decode cX9_request 7 = .ok (.ifCond .ne 11, 3) := by decide +kernel
theorem dX9_request_10 : decode cX9_request 10 = .ok (.new 46, 3) := by decide +kernel
theorem dX9_request_13 : decode cX9_request 13 = .ok (.dup, 1) := by decide +kernel
theorem dX9_request_14 : decode cX9_request 14 = .ok (.invokespecial 48, 3) := by decide +kernel
theorem dX9_request_17 : decode cX9_request 17 = .ok (.athrow, 1) := by decide +kernel
theorem dX9_request_18 : decode cX9_request 18 = .ok (.aload_n 0, 1) := by decide +kernel
theorem dX9_request_19 : decode cX9_request 19 = .ok (.getfield 10, 3) := by decide +kernel
theorem dX9_request_22 : decode cX9_request 22 = .ok (.getfield 52, 3) := by decide +kernel
theorem dX9_request_25 : decode cX9_request 25 = .ok (.invokevirtual 70, 3) := by decide +kernel
theorem dX9_request_28 : decode cX9_request 28 = .ok (.ifCond .eq 11, 3) := by decide +kernel
theorem dX9_request_31 : decode cX9_request 31 = .ok (.new 74, 3) := by decide +kernel
theorem dX9_request_34 : decode cX9_request 34 = .ok (.dup, 1) := by decide +kernel
theorem dX9_request_35 : decode cX9_request 35 = .ok (.invokespecial 76, 3) := by decide +kernel
theorem dX9_request_38 : decode cX9_request 38 = .ok (.athrow, 1) := by decide +kernel
theorem dX9_request_39 : decode cX9_request 39 = .ok (.aload_n 0, 1) := by decide +kernel
theorem dX9_request_40 : decode cX9_request 40 = .ok (.invokevirtual 49, 3) := by decide +kernel
theorem dX9_request_43 : decode cX9_request 43 = .ok (.aload_n 0, 1) := by decide +kernel
theorem dX9_request_44 : decode cX9_request 44 = .ok (.getfield 10, 3) := by decide +kernel
theorem dX9_request_47 : decode cX9_request 47 = .ok (.getfield 52, 3) := by decide +kernel
theorem dX9_request_50 : decode cX9_request 50 = .ok (.iload_n 1, 1) := by decide +kernel
theorem dX9_request_51 : decode cX9_request 51 = .ok (.iload_n 2, 1) := by decide +kernel
theorem dX9_request_52 : decode cX9_request 52 = .ok (.iload_n 3, 1) := by decide +kernel
theorem dX9_request_53 : decode cX9_request 53 = .ok (.aload_n 0, 1) := by decide +kernel
theorem dX9_request_54 : decode cX9_request 54 = .ok (.getfield 10, 3) := by decide +kernel
theorem dX9_request_57 : decode cX9_request 57 = .ok (.getfield 77, 3) := by decide +kernel
theorem dX9_request_60 : decode cX9_request 60 = .ok (.invokevirtual 80, 3) := by decide +kernel
theorem dX9_request_63 : decode cX9_request 63 = .ok (.ireturn, 1) := by decide +kernel
theorem thr_X9_request_10 : ThrOk tX9_request 46 48 "java/lang/IllegalArgumentException" := ⟨thf_48.1, qw_295, qw_28, thf_48.2.1, thf_48.2.2.1, thf_48.2.2.2.1, thf_48.2.2.2.2, by decide, by decide⟩
theorem thr_X9_request_31 : ThrOk tX9_request 74 76 "java/lang/IllegalStateException" := ⟨thf_76.1, qw_428, qw_32, thf_76.2.1, thf_76.2.2.1, thf_76.2.2.2.1, thf_76.2.2.2.2, by decide, by decide⟩
theorem cc_X9_request_X9_requestFits : CallC tX9_request tX9_requestFits 3 := ⟨by decide +kernel, by decide +kernel, by decide +kernel, by decide, by decide, qw_15, qw_423⟩
theorem cc_X9_request_X5_isFull : CallC tX9_request tX5_isFull 0 := ⟨by decide +kernel, by decide +kernel, by decide +kernel, by decide, by decide, qw_18, qw_427⟩
theorem cc_X9_request_X9_save : CallC tX9_request tX9_save 0 := ⟨by decide +kernel, by decide +kernel, by decide +kernel, by decide, by decide, qw_15, qw_361⟩
theorem cc_X9_request_X5_add : CallC tX9_request tX5_add 4 := ⟨by decide +kernel, by decide +kernel, by decide +kernel, by decide, by decide, qw_18, qw_446⟩
def kX9_request : Nat → WOp := cN 31 (cN 10 (cN 2 (cN 0 (cL 0 (o_aload 1 0)) (cN 1 (cL 1 (o_iload 2 1)) (cL 2 (o_iload 3 2)))) (cN 4 (cN 3 (cL 3 (o_iload 4 3)) (cL 4 (o_callV 7 7 3 tX9_requestFits 0 0))) (cN 7 (cL 7 (o_if_ne 18 10)) (cL 10 (o_throw "java/lang/IllegalArgumentException"))))) (cN 19 (cN 13 (cL 13 (o_dup 14)) (cN 18 (cL 18 (o_aload 19 0)) (cL 19 (o_getf 22 7 0)))) (cN 25 (cN 22 (cL 22 (o_getf 25 5 5)) (cL 25 (o_callV 28 4 0 tX5_isFull 0 0))) (cN 28 (cL 28 (o_if_eq 39 31)) (cL 31 (o_throw "java/lang/IllegalStateException")))))) (cN 50 (cN 40 (cN 34 (cL 34 (o_dup 35)) (cN 39 (cL 39 (o_aload 40 0)) (cL 40 (o_callV 43 7 0 tX9_save 0 0)))) (cN 44 (cN 43 (cL 43 (o_aload 44 0)) (cL 44 (o_getf 47 7 0))) (cN 47 (cL 47 (o_getf 50 5 5)) (cL 50 (o_iload 51 1))))) (cN 53 (cN 51 (cL 51 (o_iload 52 2)) (cN 52 (cL 52 (o_iload 53 3)) (cL 53 (o_aload 54 0)))) (cN 57 (cN 54 (cL 54 (o_getf 57 7 0)) (cL 57 (o_getf 60 5 2))) (cN 60 (cL 60 (o_callV 63 4 4 tX5_add 0 0)) (cL 63 (o_iret))))))
theorem sX9_request : ∀ pc, Snd tX9_request G1 pc (kX9_request pc) := s_N (s_N (s_N (s_N (s_L (s_aload_n dX9_request_0 rfl)) (s_N (s_L (s_iload_n dX9_request_1 rfl)) (s_L (s_iload_n dX9_request_2 rfl)))) (s_N (s_N (s_L (s_iload_n dX9_request_3 rfl)) (s_L (s_callV (d' := tX9_requestFits) (mc := 0) (ms := 0) ok_7 cc_X9_request_X9_requestFits qw_420 qw_422 qw_3 dX9_request_4))) (s_N (s_L (s_o_if_ne dX9_request_7 (by decide))) (s_L (s_throw (thr_X9_request_10) dX9_request_10 dX9_request_13 dX9_request_14 dX9_request_17))))) (s_N (s_N (s_L (s_o_dup dX9_request_13)) (s_N (s_L (s_aload_n dX9_request_18 rfl)) (s_L (s_getf ok_7 (k := 0) (by decide) dX9_request_19 qw_250)))) (s_N (s_N (s_L (s_getf ok_5 (k := 5) (by decide) dX9_request_22 qw_187)) (s_L (s_callV (d' := tX5_isFull) (mc := 0) (ms := 0) ok_4 cc_X9_request_X5_isFull qw_424 qw_425 qw_426 dX9_request_25))) (s_N (s_L (s_o_if_eq dX9_request_28 (by decide))) (s_L (s_throw (thr_X9_request_31) dX9_request_31 dX9_request_34 dX9_request_35 dX9_request_38)))))) (s_N (s_N (s_N (s_L (s_o_dup dX9_request_34)) (s_N (s_L (s_aload_n dX9_request_39 rfl)) (s_L (s_callV (d' := tX9_save) (mc := 0) (ms := 0) ok_7 cc_X9_request_X9_save qw_358 qw_360 qw_1 dX9_request_40)))) (s_N (s_N (s_L (s_aload_n dX9_request_43 rfl)) (s_L (s_getf ok_7 (k := 0) (by decide) dX9_request_44 qw_250))) (s_N (s_L (s_getf ok_5 (k := 5) (by decide) dX9_request_47 qw_187)) (s_L (s_iload_n dX9_request_50 rfl))))) (s_N (s_N (s_L (s_iload_n dX9_request_51 rfl)) (s_N (s_L (s_iload_n dX9_request_52 rfl)) (s_L (s_aload_n dX9_request_53 rfl)))) (s_N (s_N (s_L (s_getf ok_7 (k := 0) (by decide) dX9_request_54 qw_250)) (s_L (s_getf ok_5 (k := 2) (by decide) dX9_request_57 qw_181))) (s_N (s_L (s_callV (d' := tX5_add) (mc := 0) (ms := 0) ok_4 cc_X9_request_X5_add qw_443 qw_444 qw_445 dX9_request_60)) (s_L (s_iret rfl dX9_request_63))))))
/-! PlateArm.cancel -/
theorem dX9_cancel_0 : decode cX9_cancel 0 = .ok (.aload_n 0, 1) := by decide +kernel
theorem dX9_cancel_1 : decode cX9_cancel 1 = .ok (.getfield 10, 3) := by decide +kernel
theorem dX9_cancel_4 : decode cX9_cancel 4 = .ok (.getfield 52, 3) := by decide +kernel
theorem dX9_cancel_7 : decode cX9_cancel 7 = .ok (.iload_n 1, 1) := by decide +kernel
theorem dX9_cancel_8 : decode cX9_cancel 8 = .ok (.invokevirtual 84, 3) := by decide +kernel
theorem dX9_cancel_11 : decode cX9_cancel 11 = .ok (.istore_n 2, 1) := by decide +kernel
theorem dX9_cancel_12 : decode cX9_cancel 12 = .ok (.iload_n 2, 1) := by decide +kernel
theorem dX9_cancel_13 : decode cX9_cancel 13 = .ok (.iconst (-1), 1) := by decide +kernel
theorem dX9_cancel_14 : decode cX9_cancel 14 = .ok (.if_icmp .ne 11, 3) := by decide +kernel
theorem dX9_cancel_17 : decode cX9_cancel 17 = .ok (.new 88, 3) := by decide +kernel
theorem dX9_cancel_20 : decode cX9_cancel 20 = .ok (.dup, 1) := by decide +kernel
theorem dX9_cancel_21 : decode cX9_cancel 21 = .ok (.invokespecial 90, 3) := by decide +kernel
theorem dX9_cancel_24 : decode cX9_cancel 24 = .ok (.athrow, 1) := by decide +kernel
theorem dX9_cancel_25 : decode cX9_cancel 25 = .ok (.aload_n 0, 1) := by decide +kernel
theorem dX9_cancel_26 : decode cX9_cancel 26 = .ok (.invokevirtual 49, 3) := by decide +kernel
theorem dX9_cancel_29 : decode cX9_cancel 29 = .ok (.aload_n 0, 1) := by decide +kernel
theorem dX9_cancel_30 : decode cX9_cancel 30 = .ok (.getfield 10, 3) := by decide +kernel
theorem dX9_cancel_33 : decode cX9_cancel 33 = .ok (.getfield 77, 3) := by decide +kernel
theorem dX9_cancel_36 : decode cX9_cancel 36 = .ok (.aload_n 0, 1) := by decide +kernel
theorem dX9_cancel_37 : decode cX9_cancel 37 = .ok (.getfield 10, 3) := by decide +kernel
theorem dX9_cancel_40 : decode cX9_cancel 40 = .ok (.getfield 52, 3) := by decide +kernel
theorem dX9_cancel_43 : decode cX9_cancel 43 = .ok (.getfield 91, 3) := by decide +kernel
theorem dX9_cancel_46 : decode cX9_cancel 46 = .ok (.iload_n 2, 1) := by decide +kernel
theorem dX9_cancel_47 : decode cX9_cancel 47 = .ok (.iaload, 1) := by decide +kernel
theorem dX9_cancel_48 : decode cX9_cancel 48 = .ok (.isub, 1) := by decide +kernel
theorem dX9_cancel_49 : decode cX9_cancel 49 = .ok (.istore_n 3, 1) := by decide +kernel
theorem dX9_cancel_50 : decode cX9_cancel 50 = .ok (.aload_n 0, 1) := by decide +kernel
theorem dX9_cancel_51 : decode cX9_cancel 51 = .ok (.getfield 10, 3) := by decide +kernel
theorem dX9_cancel_54 : decode cX9_cancel 54 = .ok (.getfield 52, 3) := by decide +kernel
theorem dX9_cancel_57 : decode cX9_cancel 57 = .ok (.iload_n 2, 1) := by decide +kernel
theorem dX9_cancel_58 : decode cX9_cancel 58 = .ok (.invokevirtual 95, 3) := by decide +kernel
theorem dX9_cancel_61 : decode cX9_cancel 61 = .ok (.iload_n 3, 1) := by decide +kernel
theorem dX9_cancel_62 : decode cX9_cancel 62 = .ok (.ireturn, 1) := by decide +kernel
theorem thr_X9_cancel_17 : ThrOk tX9_cancel 88 90 "java/lang/IndexOutOfBoundsException" := ⟨thf_90.1, qw_464, qw_29, thf_90.2.1, thf_90.2.2.1, thf_90.2.2.2.1, thf_90.2.2.2.2, by decide, by decide⟩
theorem cc_X9_cancel_X5_indexOf : CallC tX9_cancel tX5_indexOf 1 := ⟨by decide +kernel, by decide +kernel, by decide +kernel, by decide, by decide, qw_18, qw_463⟩
theorem cc_X9_cancel_X9_save : CallC tX9_cancel tX9_save 0 := ⟨by decide +kernel, by decide +kernel, by decide +kernel, by decide, by decide, qw_15, qw_361⟩
theorem cc_X9_cancel_X5_removeAt : CallC tX9_cancel tX5_removeAt 1 := ⟨by decide +kernel, by decide +kernel, by decide +kernel, by decide, by decide, qw_18, qw_482⟩
def kX9_cancel : Nat → WOp := cN 30 (cN 12 (cN 4 (cN 0 (cL 0 (o_aload 1 0)) (cN 1 (cL 1 (o_getf 4 7 0)) (cL 4 (o_getf 7 5 5)))) (cN 8 (cN 7 (cL 7 (o_iload 8 1)) (cL 8 (o_callV 11 4 1 tX5_indexOf 0 0))) (cN 11 (cL 11 (o_istore 12 2)) (cL 12 (o_iload 13 2))))) (cN 20 (cN 14 (cN 13 (cL 13 (o_push 14 (-1))) (cL 14 (o_icmp_ne 25 17))) (cN 17 (cL 17 (o_throw "java/lang/IndexOutOfBoundsException")) (cL 20 (o_dup 21)))) (cN 26 (cN 25 (cL 25 (o_aload 26 0)) (cL 26 (o_callV 29 7 0 tX9_save 0 0))) (cN 29 (cL 29 (o_aload 30 0)) (cL 30 (o_getf 33 7 0)))))) (cN 48 (cN 40 (cN 36 (cN 33 (cL 33 (o_getf 36 5 2)) (cL 36 (o_aload 37 0))) (cN 37 (cL 37 (o_getf 40 7 0)) (cL 40 (o_getf 43 5 5)))) (cN 46 (cN 43 (cL 43 (o_getf 46 4 6)) (cL 46 (o_iload 47 2))) (cN 47 (cL 47 (o_iald 48)) (cL 48 (o_isub 49))))) (cN 54 (cN 50 (cN 49 (cL 49 (o_istore 50 3)) (cL 50 (o_aload 51 0))) (cN 51 (cL 51 (o_getf 54 7 0)) (cL 54 (o_getf 57 5 5)))) (cN 58 (cN 57 (cL 57 (o_iload 58 2)) (cL 58 (o_callV 61 4 1 tX5_removeAt 0 0))) (cN 61 (cL 61 (o_iload 62 3)) (cL 62 (o_iret))))))
theorem sX9_cancel : ∀ pc, Snd tX9_cancel G1 pc (kX9_cancel pc) := s_N (s_N (s_N (s_N (s_L (s_aload_n dX9_cancel_0 rfl)) (s_N (s_L (s_getf ok_7 (k := 0) (by decide) dX9_cancel_1 qw_250)) (s_L (s_getf ok_5 (k := 5) (by decide) dX9_cancel_4 qw_187)))) (s_N (s_N (s_L (s_iload_n dX9_cancel_7 rfl)) (s_L (s_callV (d' := tX5_indexOf) (mc := 0) (ms := 0) ok_4 cc_X9_cancel_X5_indexOf qw_460 qw_461 qw_462 dX9_cancel_8))) (s_N (s_L (s_istore_n dX9_cancel_11 rfl (by decide))) (s_L (s_iload_n dX9_cancel_12 rfl))))) (s_N (s_N (s_N (s_L (s_iconst dX9_cancel_13 (by decide +kernel))) (s_L (s_o_icmp_ne dX9_cancel_14 (by decide)))) (s_N (s_L (s_throw (thr_X9_cancel_17) dX9_cancel_17 dX9_cancel_20 dX9_cancel_21 dX9_cancel_24)) (s_L (s_o_dup dX9_cancel_20)))) (s_N (s_N (s_L (s_aload_n dX9_cancel_25 rfl)) (s_L (s_callV (d' := tX9_save) (mc := 0) (ms := 0) ok_7 cc_X9_cancel_X9_save qw_358 qw_360 qw_1 dX9_cancel_26))) (s_N (s_L (s_aload_n dX9_cancel_29 rfl)) (s_L (s_getf ok_7 (k := 0) (by decide) dX9_cancel_30 qw_250)))))) (s_N (s_N (s_N (s_N (s_L (s_getf ok_5 (k := 2) (by decide) dX9_cancel_33 qw_181)) (s_L (s_aload_n dX9_cancel_36 rfl))) (s_N (s_L (s_getf ok_7 (k := 0) (by decide) dX9_cancel_37 qw_250)) (s_L (s_getf ok_5 (k := 5) (by decide) dX9_cancel_40 qw_187)))) (s_N (s_N (s_L (s_getf ok_4 (k := 6) (by decide) dX9_cancel_43 qw_104)) (s_L (s_iload_n dX9_cancel_46 rfl))) (s_N (s_L (s_iald dX9_cancel_47)) (s_L (s_o_isub dX9_cancel_48))))) (s_N (s_N (s_N (s_L (s_istore_n dX9_cancel_49 rfl (by decide))) (s_L (s_aload_n dX9_cancel_50 rfl))) (s_N (s_L (s_getf ok_7 (k := 0) (by decide) dX9_cancel_51 qw_250)) (s_L (s_getf ok_5 (k := 5) (by decide) dX9_cancel_54 qw_187)))) (s_N (s_N (s_L (s_iload_n dX9_cancel_57 rfl)) (s_L (s_callV (d' := tX5_removeAt) (mc := 0) (ms := 0) ok_4 cc_X9_cancel_X5_removeAt qw_479 qw_480 qw_481 dX9_cancel_58))) (s_N (s_L (s_iload_n dX9_cancel_61 rfl)) (s_L (s_iret rfl dX9_cancel_62))))))
/-! PlateArm.set -/
theorem dX9_set_0 : decode cX9_set 0 = .ok (.iload_n 1, 1) := by decide +kernel
theorem dX9_set_1 : decode cX9_set 1 = .ok (.iload_n 2, 1) := by decide +kernel
theorem dX9_set_2 : decode cX9_set 2 = .ok (.invokestatic 99, 3) := by decide +kernel
theorem dX9_set_5 : decode cX9_set 5 = .ok (.ifCond .ne 11, 3) := by decide +kernel
theorem dX9_set_8 : decode cX9_set 8 = .ok (.new 46, 3) := by decide +kernel
theorem dX9_set_11 : decode cX9_set 11 = .ok (.dup, 1) := by decide +kernel
theorem dX9_set_12 : decode cX9_set 12 = .ok (.invokespecial 48, 3) := by decide +kernel
theorem dX9_set_15 : decode cX9_set 15 = .ok (.athrow, 1) := by decide +kernel
theorem dX9_set_16 : decode cX9_set 16 = .ok (.aload_n 0, 1) := by decide +kernel
theorem dX9_set_17 : decode cX9_set 17 = .ok (.invokevirtual 49, 3) := by decide +kernel
theorem dX9_set_20 : decode cX9_set 20 = .ok (.aload_n 0, 1) := by decide +kernel
theorem dX9_set_21 : decode cX9_set 21 = .ok (.getfield 10, 3) := by decide +kernel
theorem dX9_set_24 : decode cX9_set 24 = .ok (.getfield 102, 3) := by decide +kernel
theorem dX9_set_27 : decode cX9_set 27 = .ok (.iload_n 1, 1) := by decide +kernel
theorem dX9_set_28 : decode cX9_set 28 = .ok (.iaload, 1) := by decide +kernel
theorem dX9_set_29 : decode cX9_set 29 = .ok (.istore_n 3, 1) := by decide +kernel
theorem dX9_set_30 : decode cX9_set 30 = .ok (.aload_n 0, 1) := by decide +kernel
theorem dX9_set_31 : decode cX9_set 31 = .ok (.getfield 10, 3) := by decide +kernel
theorem dX9_set_34 : decode cX9_set 34 = .ok (.getfield 102, 3) := by decide +kernel
theorem dX9_set_37 : decode cX9_set 37 = .ok (.iload_n 1, 1) := by decide +kernel
theorem dX9_set_38 : decode cX9_set 38 = .ok (.iload_n 2, 1) := by decide +kernel
theorem dX9_set_39 : decode cX9_set 39 = .ok (.iastore, 1) := by decide +kernel
theorem dX9_set_40 : decode cX9_set 40 = .ok (.iload_n 3, 1) := by decide +kernel
theorem dX9_set_41 : decode cX9_set 41 = .ok (.ireturn, 1) := by decide +kernel
theorem thr_X9_set_8 : ThrOk tX9_set 46 48 "java/lang/IllegalArgumentException" := ⟨thf_48.1, qw_295, qw_28, thf_48.2.1, thf_48.2.2.1, thf_48.2.2.2.1, thf_48.2.2.2.2, by decide, by decide⟩
theorem cc_X9_set_X9_settingFits : CallC tX9_set tX9_settingFits 2 := ⟨by decide +kernel, by decide +kernel, by decide +kernel, by decide, by decide, qw_15, qw_500⟩
theorem cc_X9_set_X9_save : CallC tX9_set tX9_save 0 := ⟨by decide +kernel, by decide +kernel, by decide +kernel, by decide, by decide, qw_15, qw_361⟩
def kX9_set : Nat → WOp := cN 24 (cN 8 (cN 1 (cN 0 (cL 0 (o_iload 1 1)) (cL 1 (o_iload 2 2))) (cN 2 (cL 2 (o_callS 5 2 tX9_settingFits 0 0)) (cN 5 (cL 5 (o_if_ne 16 8)) (cL 8 (o_throw "java/lang/IllegalArgumentException"))))) (cN 17 (cN 11 (cL 11 (o_dup 12)) (cN 16 (cL 16 (o_aload 17 0)) (cL 17 (o_callV 20 7 0 tX9_save 0 0)))) (cN 20 (cL 20 (o_aload 21 0)) (cN 21 (cL 21 (o_getf 24 7 0)) (cL 24 (o_getf 27 5 3)))))) (cN 31 (cN 28 (cN 27 (cL 27 (o_iload 28 1)) (cL 28 (o_iald 29))) (cN 29 (cL 29 (o_istore 30 3)) (cN 30 (cL 30 (o_aload 31 0)) (cL 31 (o_getf 34 7 0))))) (cN 38 (cN 34 (cL 34 (o_getf 37 5 3)) (cN 37 (cL 37 (o_iload 38 1)) (cL 38 (o_iload 39 2)))) (cN 39 (cL 39 (o_iast 40)) (cN 40 (cL 40 (o_iload 41 3)) (cL 41 (o_iret))))))
theorem sX9_set : ∀ pc, Snd tX9_set G1 pc (kX9_set pc) := s_N (s_N (s_N (s_N (s_L (s_iload_n dX9_set_0 rfl)) (s_L (s_iload_n dX9_set_1 rfl))) (s_N (s_L (s_callS (d' := tX9_settingFits) (mc := 0) (ms := 0) cc_X9_set_X9_settingFits qw_498 qw_499 dX9_set_2)) (s_N (s_L (s_o_if_ne dX9_set_5 (by decide))) (s_L (s_throw (thr_X9_set_8) dX9_set_8 dX9_set_11 dX9_set_12 dX9_set_15))))) (s_N (s_N (s_L (s_o_dup dX9_set_11)) (s_N (s_L (s_aload_n dX9_set_16 rfl)) (s_L (s_callV (d' := tX9_save) (mc := 0) (ms := 0) ok_7 cc_X9_set_X9_save qw_358 qw_360 qw_1 dX9_set_17)))) (s_N (s_L (s_aload_n dX9_set_20 rfl)) (s_N (s_L (s_getf ok_7 (k := 0) (by decide) dX9_set_21 qw_250)) (s_L (s_getf ok_5 (k := 3) (by decide) dX9_set_24 qw_183)))))) (s_N (s_N (s_N (s_L (s_iload_n dX9_set_27 rfl)) (s_L (s_iald dX9_set_28))) (s_N (s_L (s_istore_n dX9_set_29 rfl (by decide))) (s_N (s_L (s_aload_n dX9_set_30 rfl)) (s_L (s_getf ok_7 (k := 0) (by decide) dX9_set_31 qw_250))))) (s_N (s_N (s_L (s_getf ok_5 (k := 3) (by decide) dX9_set_34 qw_183)) (s_N (s_L (s_iload_n dX9_set_37 rfl)) (s_L (s_iload_n dX9_set_38 rfl)))) (s_N (s_L (s_iast dX9_set_39)) (s_N (s_L (s_iload_n dX9_set_40 rfl)) (s_L (s_iret rfl dX9_set_41))))))
/-! PlateArm.pass -/
theorem dX9_pass_0 : decode cX9_pass 0 = .ok (.iload_n 1, 1) := by decide +kernel
theorem dX9_pass_1 : decode cX9_pass 1 = .ok (.invokestatic 105, 3) := by decide +kernel
theorem dX9_pass_4 : decode cX9_pass 4 = .ok (.ifCond .ne 11, 3) := by decide +kernel
theorem dX9_pass_7 : decode cX9_pass 7 = .ok (.new 46, 3) := by decide +kernel
theorem dX9_pass_10 : decode cX9_pass 10 = .ok (.dup, 1) := by decide +kernel
theorem dX9_pass_11 : decode cX9_pass 11 = .ok (.invokespecial 48, 3) := by decide +kernel
theorem dX9_pass_14 : decode cX9_pass 14 = .ok (.athrow, 1) := by decide +kernel
theorem dX9_pass_15 : decode cX9_pass 15 = .ok (.aload_n 0, 1) := by decide +kernel
theorem dX9_pass_16 : decode cX9_pass 16 = .ok (.iload_n 1, 1) := by decide +kernel
theorem dX9_pass_17 : decode cX9_pass 17 = .ok (.invokevirtual 109, 3) := by decide +kernel
theorem dX9_pass_20 : decode cX9_pass 20 = .ok (.ifCond .ne 11, 3) := by decide +kernel
theorem dX9_pass_23 : decode cX9_pass 23 = .ok (.new 74, 3) := by decide +kernel
theorem dX9_pass_26 : decode cX9_pass 26 = .ok (.dup, 1) := by decide +kernel
theorem dX9_pass_27 : decode cX9_pass 27 = .ok (.invokespecial 76, 3) := by decide +kernel
theorem dX9_pass_30 : decode cX9_pass 30 = .ok (.athrow, 1) := by decide +kernel
theorem dX9_pass_31 : decode cX9_pass 31 = .ok (.aload_n 0, 1) := by decide +kernel
theorem dX9_pass_32 : decode cX9_pass 32 = .ok (.invokevirtual 49, 3) := by decide +kernel
theorem dX9_pass_35 : decode cX9_pass 35 = .ok (.aload_n 0, 1) := by decide +kernel
theorem dX9_pass_36 : decode cX9_pass 36 = .ok (.getfield 10, 3) := by decide +kernel
theorem dX9_pass_39 : decode cX9_pass 39 = .ok (.getfield 112, 3) := by decide +kernel
theorem dX9_pass_42 : decode cX9_pass 42 = .ok (.getfield 116, 3) := by decide +kernel
theorem dX9_pass_45 : decode cX9_pass 45 = .ok (.istore_n 2, 1) := by decide +kernel
theorem dX9_pass_46 : decode cX9_pass 46 = .ok (.aload_n 0, 1) := by decide +kernel
theorem dX9_pass_47 : decode cX9_pass 47 = .ok (.getfield 10, 3) := by decide +kernel
theorem dX9_pass_50 : decode cX9_pass 50 = .ok (.iload_n 1, 1) := by decide +kernel
theorem dX9_pass_51 : decode cX9_pass 51 = .ok (.invokevirtual 121, 3) := by decide +kernel
theorem dX9_pass_54 : decode cX9_pass 54 = .ok (.aload_n 0, 1) := by decide +kernel
theorem dX9_pass_55 : decode cX9_pass 55 = .ok (.getfield 10, 3) := by decide +kernel
theorem dX9_pass_58 : decode cX9_pass 58 = .ok (.getfield 112, 3) := by decide +kernel
theorem dX9_pass_61 : decode cX9_pass 61 = .ok (.getfield 116, 3) := by decide +kernel
theorem dX9_pass_64 : decode cX9_pass 64 = .ok (.iload_n 2, 1) := by decide +kernel
theorem dX9_pass_65 : decode cX9_pass 65 = .ok (.isub, 1) := by decide +kernel
theorem dX9_pass_66 : decode cX9_pass 66 = .ok (.ireturn, 1) := by decide +kernel
theorem thr_X9_pass_7 : ThrOk tX9_pass 46 48 "java/lang/IllegalArgumentException" := ⟨thf_48.1, qw_295, qw_28, thf_48.2.1, thf_48.2.2.1, thf_48.2.2.2.1, thf_48.2.2.2.2, by decide, by decide⟩
theorem thr_X9_pass_23 : ThrOk tX9_pass 74 76 "java/lang/IllegalStateException" := ⟨thf_76.1, qw_428, qw_32, thf_76.2.1, thf_76.2.2.1, thf_76.2.2.2.1, thf_76.2.2.2.2, by decide, by decide⟩
theorem cc_X9_pass_X9_ticksFit : CallC tX9_pass tX9_ticksFit 1 := ⟨by decide +kernel, by decide +kernel, by decide +kernel, by decide, by decide, qw_15, qw_604⟩
theorem cc_X9_pass_X9_timeIsLeft : CallC tX9_pass tX9_timeIsLeft 1 := ⟨by decide +kernel, by decide +kernel, by decide +kernel, by decide, by decide, qw_15, qw_581⟩
theorem cc_X9_pass_X9_save : CallC tX9_pass tX9_save 0 := ⟨by decide +kernel, by decide +kernel, by decide +kernel, by decide, by decide, qw_15, qw_361⟩
theorem cc_X9_pass_X6_passTicks : CallC tX9_pass tX6_passTicks 1 := ⟨by decide +kernel, by decide +kernel, by decide +kernel, by decide, by decide, qw_16, qw_608⟩
def kX9_pass : Nat → WOp := cN 35 (cN 16 (cN 4 (cN 0 (cL 0 (o_iload 1 1)) (cN 1 (cL 1 (o_callS 4 1 tX9_ticksFit 0 0)) (cL 4 (o_if_ne 15 7)))) (cN 10 (cN 7 (cL 7 (o_throw "java/lang/IllegalArgumentException")) (cL 10 (o_dup 11))) (cN 15 (cL 15 (o_aload 16 0)) (cL 16 (o_iload 17 1))))) (cN 23 (cN 17 (cL 17 (o_callV 20 7 1 tX9_timeIsLeft 0 0)) (cN 20 (cL 20 (o_if_ne 31 23)) (cL 23 (o_throw "java/lang/IllegalStateException")))) (cN 31 (cN 26 (cL 26 (o_dup 27)) (cL 31 (o_aload 32 0))) (cN 32 (cL 32 (o_callV 35 7 0 tX9_save 0 0)) (cL 35 (o_aload 36 0)))))) (cN 50 (cN 42 (cN 36 (cL 36 (o_getf 39 7 0)) (cN 39 (cL 39 (o_getf 42 5 6)) (cL 42 (o_getf 45 3 0)))) (cN 46 (cN 45 (cL 45 (o_istore 46 2)) (cL 46 (o_aload 47 0))) (cN 47 (cL 47 (o_getf 50 7 0)) (cL 50 (o_iload 51 1))))) (cN 58 (cN 54 (cN 51 (cL 51 (o_callV 54 5 1 tX6_passTicks 0 0)) (cL 54 (o_aload 55 0))) (cN 55 (cL 55 (o_getf 58 7 0)) (cL 58 (o_getf 61 5 6)))) (cN 64 (cN 61 (cL 61 (o_getf 64 3 0)) (cL 64 (o_iload 65 2))) (cN 65 (cL 65 (o_isub 66)) (cL 66 (o_iret))))))
theorem sX9_pass : ∀ pc, Snd tX9_pass G1 pc (kX9_pass pc) := s_N (s_N (s_N (s_N (s_L (s_iload_n dX9_pass_0 rfl)) (s_N (s_L (s_callS (d' := tX9_ticksFit) (mc := 0) (ms := 0) cc_X9_pass_X9_ticksFit qw_602 qw_603 dX9_pass_1)) (s_L (s_o_if_ne dX9_pass_4 (by decide))))) (s_N (s_N (s_L (s_throw (thr_X9_pass_7) dX9_pass_7 dX9_pass_10 dX9_pass_11 dX9_pass_14)) (s_L (s_o_dup dX9_pass_10))) (s_N (s_L (s_aload_n dX9_pass_15 rfl)) (s_L (s_iload_n dX9_pass_16 rfl))))) (s_N (s_N (s_L (s_callV (d' := tX9_timeIsLeft) (mc := 0) (ms := 0) ok_7 cc_X9_pass_X9_timeIsLeft qw_578 qw_580 qw_12 dX9_pass_17)) (s_N (s_L (s_o_if_ne dX9_pass_20 (by decide))) (s_L (s_throw (thr_X9_pass_23) dX9_pass_23 dX9_pass_26 dX9_pass_27 dX9_pass_30)))) (s_N (s_N (s_L (s_o_dup dX9_pass_26)) (s_L (s_aload_n dX9_pass_31 rfl))) (s_N (s_L (s_callV (d' := tX9_save) (mc := 0) (ms := 0) ok_7 cc_X9_pass_X9_save qw_358 qw_360 qw_1 dX9_pass_32)) (s_L (s_aload_n dX9_pass_35 rfl)))))) (s_N (s_N (s_N (s_L (s_getf ok_7 (k := 0) (by decide) dX9_pass_36 qw_250)) (s_N (s_L (s_getf ok_5 (k := 6) (by decide) dX9_pass_39 qw_189)) (s_L (s_getf ok_3 (k := 0) (by decide) dX9_pass_42 qw_127)))) (s_N (s_N (s_L (s_istore_n dX9_pass_45 rfl (by decide))) (s_L (s_aload_n dX9_pass_46 rfl))) (s_N (s_L (s_getf ok_7 (k := 0) (by decide) dX9_pass_47 qw_250)) (s_L (s_iload_n dX9_pass_50 rfl))))) (s_N (s_N (s_N (s_L (s_callV (d' := tX6_passTicks) (mc := 0) (ms := 0) ok_5 cc_X9_pass_X6_passTicks qw_605 qw_606 qw_607 dX9_pass_51)) (s_L (s_aload_n dX9_pass_54 rfl))) (s_N (s_L (s_getf ok_7 (k := 0) (by decide) dX9_pass_55 qw_250)) (s_L (s_getf ok_5 (k := 6) (by decide) dX9_pass_58 qw_189)))) (s_N (s_N (s_L (s_getf ok_3 (k := 0) (by decide) dX9_pass_61 qw_127)) (s_L (s_iload_n dX9_pass_64 rfl))) (s_N (s_L (s_o_isub dX9_pass_65)) (s_L (s_iret rfl dX9_pass_66))))))
/-! PlateArm.finish -/
theorem dX9_finish_0 : decode cX9_finish 0 = .ok (.aload_n 0, 1) := by decide +kernel
theorem dX9_finish_1 : decode cX9_finish 1 = .ok (.getfield 16, 3) := by decide +kernel
theorem dX9_finish_4 : decode cX9_finish 4 = .ok (.aload_n 0, 1) := by decide +kernel
theorem dX9_finish_5 : decode cX9_finish 5 = .ok (.getfield 10, 3) := by decide +kernel
theorem dX9_finish_8 : decode cX9_finish 8 = .ok (.invokevirtual 124, 3) := by decide +kernel
theorem dX9_finish_11 : decode cX9_finish 11 = .ok (.aload_n 0, 1) := by decide +kernel
theorem dX9_finish_12 : decode cX9_finish 12 = .ok (.getfield 16, 3) := by decide +kernel
theorem dX9_finish_15 : decode cX9_finish 15 = .ok (.invokevirtual 128, 3) := by decide +kernel
theorem dX9_finish_18 : decode cX9_finish 18 = .ok (.istore_n 1, 1) := by decide +kernel
theorem dX9_finish_19 : decode cX9_finish 19 = .ok (.aload_n 0, 1) := by decide +kernel
theorem dX9_finish_20 : decode cX9_finish 20 = .ok (.iload_n 1, 1) := by decide +kernel
theorem dX9_finish_21 : decode cX9_finish 21 = .ok (.invokevirtual 109, 3) := by decide +kernel
theorem dX9_finish_24 : decode cX9_finish 24 = .ok (.ifCond .ne 11, 3) := by decide +kernel
theorem dX9_finish_27 : decode cX9_finish 27 = .ok (.new 74, 3) := by decide +kernel
theorem dX9_finish_30 : decode cX9_finish 30 = .ok (.dup, 1) := by decide +kernel
theorem dX9_finish_31 : decode cX9_finish 31 = .ok (.invokespecial 76, 3) := by decide +kernel
theorem dX9_finish_34 : decode cX9_finish 34 = .ok (.athrow, 1) := by decide +kernel
theorem dX9_finish_35 : decode cX9_finish 35 = .ok (.aload_n 0, 1) := by decide +kernel
theorem dX9_finish_36 : decode cX9_finish 36 = .ok (.invokevirtual 49, 3) := by decide +kernel
theorem dX9_finish_39 : decode cX9_finish 39 = .ok (.aload_n 0, 1) := by decide +kernel
theorem dX9_finish_40 : decode cX9_finish 40 = .ok (.getfield 10, 3) := by decide +kernel
theorem dX9_finish_43 : decode cX9_finish 43 = .ok (.aload_n 0, 1) := by decide +kernel
theorem dX9_finish_44 : decode cX9_finish 44 = .ok (.getfield 16, 3) := by decide +kernel
theorem dX9_finish_47 : decode cX9_finish 47 = .ok (.invokevirtual 124, 3) := by decide +kernel
theorem dX9_finish_50 : decode cX9_finish 50 = .ok (.iload_n 1, 1) := by decide +kernel
theorem dX9_finish_51 : decode cX9_finish 51 = .ok (.ireturn, 1) := by decide +kernel
theorem thr_X9_finish_27 : ThrOk tX9_finish 74 76 "java/lang/IllegalStateException" := ⟨thf_76.1, qw_428, qw_32, thf_76.2.1, thf_76.2.2.1, thf_76.2.2.2.1, thf_76.2.2.2.2, by decide, by decide⟩
theorem cc_X9_finish_X6_copyFrom : CallC tX9_finish tX6_copyFrom 1 := ⟨by decide +kernel, by decide +kernel, by decide +kernel, by decide, by decide, qw_16, qw_369⟩
theorem cc_X9_finish_X6_passUntilEmpty : CallC tX9_finish tX6_passUntilEmpty 0 := ⟨by decide +kernel, by decide +kernel, by decide +kernel, by decide, by decide, qw_16, qw_515⟩
theorem cc_X9_finish_X9_timeIsLeft : CallC tX9_finish tX9_timeIsLeft 1 := ⟨by decide +kernel, by decide +kernel, by decide +kernel, by decide, by decide, qw_15, qw_581⟩
theorem cc_X9_finish_X9_save : CallC tX9_finish tX9_save 0 := ⟨by decide +kernel, by decide +kernel, by decide +kernel, by decide, by decide, qw_15, qw_361⟩
def kX9_finish : Nat → WOp := cN 21 (cN 11 (cN 4 (cN 0 (cL 0 (o_aload 1 0)) (cN 1 (cL 1 (o_getf 4 7 1)) (cL 4 (o_aload 5 0)))) (cN 5 (cL 5 (o_getf 8 7 0)) (cN 8 (cL 8 (o_callV 11 5 1 tX6_copyFrom 0 0)) (cL 11 (o_aload 12 0))))) (cN 18 (cN 12 (cL 12 (o_getf 15 7 1)) (cN 15 (cL 15 (o_callV 18 5 0 tX6_passUntilEmpty 0 0)) (cL 18 (o_istore 19 1)))) (cN 19 (cL 19 (o_aload 20 0)) (cN 20 (cL 20 (o_iload 21 1)) (cL 21 (o_callV 24 7 1 tX9_timeIsLeft 0 0)))))) (cN 39 (cN 30 (cN 24 (cL 24 (o_if_ne 35 27)) (cN 27 (cL 27 (o_throw "java/lang/IllegalStateException")) (cL 30 (o_dup 31)))) (cN 35 (cL 35 (o_aload 36 0)) (cN 36 (cL 36 (o_callV 39 7 0 tX9_save 0 0)) (cL 39 (o_aload 40 0))))) (cN 44 (cN 40 (cL 40 (o_getf 43 7 0)) (cN 43 (cL 43 (o_aload 44 0)) (cL 44 (o_getf 47 7 1)))) (cN 47 (cL 47 (o_callV 50 5 1 tX6_copyFrom 0 0)) (cN 50 (cL 50 (o_iload 51 1)) (cL 51 (o_iret))))))
theorem sX9_finish : ∀ pc, Snd tX9_finish G1 pc (kX9_finish pc) := s_N (s_N (s_N (s_N (s_L (s_aload_n dX9_finish_0 rfl)) (s_N (s_L (s_getf ok_7 (k := 1) (by decide) dX9_finish_1 qw_251)) (s_L (s_aload_n dX9_finish_4 rfl)))) (s_N (s_L (s_getf ok_7 (k := 0) (by decide) dX9_finish_5 qw_250)) (s_N (s_L (s_callV (d' := tX6_copyFrom) (mc := 0) (ms := 0) ok_5 cc_X9_finish_X6_copyFrom qw_366 qw_367 qw_368 dX9_finish_8)) (s_L (s_aload_n dX9_finish_11 rfl))))) (s_N (s_N (s_L (s_getf ok_7 (k := 1) (by decide) dX9_finish_12 qw_251)) (s_N (s_L (s_callV (d' := tX6_passUntilEmpty) (mc := 0) (ms := 0) ok_5 cc_X9_finish_X6_passUntilEmpty qw_512 qw_513 qw_514 dX9_finish_15)) (s_L (s_istore_n dX9_finish_18 rfl (by decide))))) (s_N (s_L (s_aload_n dX9_finish_19 rfl)) (s_N (s_L (s_iload_n dX9_finish_20 rfl)) (s_L (s_callV (d' := tX9_timeIsLeft) (mc := 0) (ms := 0) ok_7 cc_X9_finish_X9_timeIsLeft qw_578 qw_580 qw_12 dX9_finish_21)))))) (s_N (s_N (s_N (s_L (s_o_if_ne dX9_finish_24 (by decide))) (s_N (s_L (s_throw (thr_X9_finish_27) dX9_finish_27 dX9_finish_30 dX9_finish_31 dX9_finish_34)) (s_L (s_o_dup dX9_finish_30)))) (s_N (s_L (s_aload_n dX9_finish_35 rfl)) (s_N (s_L (s_callV (d' := tX9_save) (mc := 0) (ms := 0) ok_7 cc_X9_finish_X9_save qw_358 qw_360 qw_1 dX9_finish_36)) (s_L (s_aload_n dX9_finish_39 rfl))))) (s_N (s_N (s_L (s_getf ok_7 (k := 0) (by decide) dX9_finish_40 qw_250)) (s_N (s_L (s_aload_n dX9_finish_43 rfl)) (s_L (s_getf ok_7 (k := 1) (by decide) dX9_finish_44 qw_251)))) (s_N (s_L (s_callV (d' := tX6_copyFrom) (mc := 0) (ms := 0) ok_5 cc_X9_finish_X6_copyFrom qw_366 qw_367 qw_368 dX9_finish_47)) (s_N (s_L (s_iload_n dX9_finish_50 rfl)) (s_L (s_iret rfl dX9_finish_51))))))
/-! PlateArm.requestOf -/
theorem dX9_requestOf_0 : decode cX9_requestOf 0 = .ok (.aload_n 0, 1) := by decide +kernel
theorem dX9_requestOf_1 : decode cX9_requestOf 1 = .ok (.getfield 10, 3) := by decide +kernel
theorem dX9_requestOf_4 : decode cX9_requestOf 4 = .ok (.getfield 52, 3) := by decide +kernel
theorem dX9_requestOf_7 : decode cX9_requestOf 7 = .ok (.iload_n 1, 1) := by decide +kernel
theorem dX9_requestOf_8 : decode cX9_requestOf 8 = .ok (.invokevirtual 84, 3) := by decide +kernel
theorem dX9_requestOf_11 : decode cX9_requestOf 11 = .ok (.istore_n 3, 1) := by decide +kernel
theorem dX9_requestOf_12 : decode cX9_requestOf 12 = .ok (.iload_n 3, 1) := by decide +kernel
theorem dX9_requestOf_13 : decode cX9_requestOf 13 = .ok (.iconst (-1), 1) := by decide +kernel
theorem dX9_requestOf_14 : decode cX9_requestOf 14 = .ok (.if_icmp .ne 11, 3) := by decide +kernel
theorem dX9_requestOf_17 : decode cX9_requestOf 17 = .ok (.new 88, 3) := by decide +kernel
theorem dX9_requestOf_20 : decode cX9_requestOf 20 = .ok (.dup, 1) := by decide +kernel
theorem dX9_requestOf_21 : decode cX9_requestOf 21 = .ok (.invokespecial 90, 3) := by decide +kernel
theorem dX9_requestOf_24 : decode cX9_requestOf 24 = .ok (.athrow, 1) := by decide +kernel
theorem dX9_requestOf_25 : decode cX9_requestOf 25 = .ok (.iload_n 2, 1) := by decide +kernel
theorem dX9_requestOf_26 : decode cX9_requestOf 26 = .ok (.ifCond .lt 9, 3) := by decide +kernel
theorem dX9_requestOf_29 : decode cX9_requestOf 29 = .ok (.iload_n 2, 1) := by decide +kernel
theorem dX9_requestOf_30 : decode cX9_requestOf 30 = .ok (.bipush 6, 2) := by decide +kernel
theorem dX9_requestOf_32 : decode cX9_requestOf 32 = .ok (.if_icmp .lt 11, 3) := by decide +kernel
theorem dX9_requestOf_35 : decode cX9_requestOf 35 = .ok (.new 46, 3) := by decide +kernel
theorem dX9_requestOf_38 : decode cX9_requestOf 38 = .ok (.dup, 1) := by decide +kernel
theorem dX9_requestOf_39 : decode cX9_requestOf 39 = .ok (.invokespecial 48, 3) := by decide +kernel
theorem dX9_requestOf_42 : decode cX9_requestOf 42 = .ok (.athrow, 1) := by decide +kernel
theorem dX9_requestOf_43 : decode cX9_requestOf 43 = .ok (.aload_n 0, 1) := by decide +kernel
theorem dX9_requestOf_44 : decode cX9_requestOf 44 = .ok (.iload_n 3, 1) := by decide +kernel
theorem dX9_requestOf_45 : decode cX9_requestOf 45 = .ok (.iload_n 2, 1) := by decide +kernel
theorem dX9_requestOf_46 : decode cX9_requestOf 46 = .ok (.invokevirtual 132, 3) := by decide +kernel
theorem dX9_requestOf_49 : decode cX9_requestOf 49 = .ok (.ireturn, 1) := by decide +kernel
theorem thr_X9_requestOf_17 : ThrOk tX9_requestOf 88 90 "java/lang/IndexOutOfBoundsException" := ⟨thf_90.1, qw_464, qw_29, thf_90.2.1, thf_90.2.2.1, thf_90.2.2.2.1, thf_90.2.2.2.2, by decide, by decide⟩
theorem thr_X9_requestOf_35 : ThrOk tX9_requestOf 46 48 "java/lang/IllegalArgumentException" := ⟨thf_48.1, qw_295, qw_28, thf_48.2.1, thf_48.2.2.1, thf_48.2.2.2.1, thf_48.2.2.2.2, by decide, by decide⟩
theorem cc_X9_requestOf_X5_indexOf : CallC tX9_requestOf tX5_indexOf 1 := ⟨by decide +kernel, by decide +kernel, by decide +kernel, by decide, by decide, qw_18, qw_463⟩
theorem cc_X9_requestOf_X9_requestValue : CallC tX9_requestOf tX9_requestValue 2 := ⟨by decide +kernel, by decide +kernel, by decide +kernel, by decide, by decide, qw_15, qw_619⟩
def kX9_requestOf : Nat → WOp := cN 20 (cN 8 (cN 1 (cN 0 (cL 0 (o_aload 1 0)) (cL 1 (o_getf 4 7 0))) (cN 4 (cL 4 (o_getf 7 5 5)) (cN 7 (cL 7 (o_iload 8 1)) (cL 8 (o_callV 11 4 1 tX5_indexOf 0 0))))) (cN 13 (cN 11 (cL 11 (o_istore 12 3)) (cN 12 (cL 12 (o_iload 13 3)) (cL 13 (o_push 14 (-1))))) (cN 14 (cL 14 (o_icmp_ne 25 17)) (cN 17 (cL 17 (o_throw "java/lang/IndexOutOfBoundsException")) (cL 20 (o_dup 21)))))) (cN 35 (cN 29 (cN 25 (cL 25 (o_iload 26 2)) (cN 26 (cL 26 (o_if_lt 35 29)) (cL 29 (o_iload 30 2)))) (cN 30 (cL 30 (o_push 32 6)) (cN 32 (cL 32 (o_icmp_lt 43 35)) (cL 35 (o_throw "java/lang/IllegalArgumentException"))))) (cN 44 (cN 38 (cL 38 (o_dup 39)) (cN 43 (cL 43 (o_aload 44 0)) (cL 44 (o_iload 45 3)))) (cN 45 (cL 45 (o_iload 46 2)) (cN 46 (cL 46 (o_callV 49 7 2 tX9_requestValue 0 0)) (cL 49 (o_iret))))))
theorem sX9_requestOf : ∀ pc, Snd tX9_requestOf G1 pc (kX9_requestOf pc) := s_N (s_N (s_N (s_N (s_L (s_aload_n dX9_requestOf_0 rfl)) (s_L (s_getf ok_7 (k := 0) (by decide) dX9_requestOf_1 qw_250))) (s_N (s_L (s_getf ok_5 (k := 5) (by decide) dX9_requestOf_4 qw_187)) (s_N (s_L (s_iload_n dX9_requestOf_7 rfl)) (s_L (s_callV (d' := tX5_indexOf) (mc := 0) (ms := 0) ok_4 cc_X9_requestOf_X5_indexOf qw_460 qw_461 qw_462 dX9_requestOf_8))))) (s_N (s_N (s_L (s_istore_n dX9_requestOf_11 rfl (by decide))) (s_N (s_L (s_iload_n dX9_requestOf_12 rfl)) (s_L (s_iconst dX9_requestOf_13 (by decide +kernel))))) (s_N (s_L (s_o_icmp_ne dX9_requestOf_14 (by decide))) (s_N (s_L (s_throw (thr_X9_requestOf_17) dX9_requestOf_17 dX9_requestOf_20 dX9_requestOf_21 dX9_requestOf_24)) (s_L (s_o_dup dX9_requestOf_20)))))) (s_N (s_N (s_N (s_L (s_iload_n dX9_requestOf_25 rfl)) (s_N (s_L (s_o_if_lt dX9_requestOf_26 (by decide))) (s_L (s_iload_n dX9_requestOf_29 rfl)))) (s_N (s_L (s_bipush dX9_requestOf_30 (by decide +kernel))) (s_N (s_L (s_o_icmp_lt dX9_requestOf_32 (by decide))) (s_L (s_throw (thr_X9_requestOf_35) dX9_requestOf_35 dX9_requestOf_38 dX9_requestOf_39 dX9_requestOf_42))))) (s_N (s_N (s_L (s_o_dup dX9_requestOf_38)) (s_N (s_L (s_aload_n dX9_requestOf_43 rfl)) (s_L (s_iload_n dX9_requestOf_44 rfl)))) (s_N (s_L (s_iload_n dX9_requestOf_45 rfl)) (s_N (s_L (s_callV (d' := tX9_requestValue) (mc := 0) (ms := 0) ok_7 cc_X9_requestOf_X9_requestValue qw_616 qw_618 qw_13 dX9_requestOf_46)) (s_L (s_iret rfl dX9_requestOf_49))))))
/-! PlateArm.requestAt -/
theorem dX9_requestAt_0 : decode cX9_requestAt 0 = .ok (.iload_n 1, 1) := by decide +kernel
theorem dX9_requestAt_1 : decode cX9_requestAt 1 = .ok (.ifCond .ge 11, 3) := by decide +kernel
theorem dX9_requestAt_4 : decode cX9_requestAt 4 = .ok (.new 46, 3) := by decide +kernel
theorem dX9_requestAt_7 : decode cX9_requestAt 7 = .ok (.dup, 1) := by decide +kernel
theorem dX9_requestAt_8 : decode cX9_requestAt 8 = .ok (.invokespecial 48, 3) := by decide +kernel
theorem dX9_requestAt_11 : decode cX9_requestAt 11 = .ok (.athrow, 1) := by decide +kernel
theorem dX9_requestAt_12 : decode cX9_requestAt 12 = .ok (.iload_n 1, 1) := by decide +kernel
theorem dX9_requestAt_13 : decode cX9_requestAt 13 = .ok (.aload_n 0, 1) := by decide +kernel
theorem dX9_requestAt_14 : decode cX9_requestAt 14 = .ok (.getfield 10, 3) := by decide +kernel
theorem dX9_requestAt_17 : decode cX9_requestAt 17 = .ok (.getfield 52, 3) := by decide +kernel
theorem dX9_requestAt_20 : decode cX9_requestAt 20 = .ok (.getfield 56, 3) := by decide +kernel
theorem dX9_requestAt_23 : decode cX9_requestAt 23 = .ok (.if_icmp .ge 18, 3) := by decide +kernel
theorem dX9_requestAt_26 : decode cX9_requestAt 26 = .ok (.aload_n 0, 1) := by decide +kernel
theorem dX9_requestAt_27 : decode cX9_requestAt 27 = .ok (.getfield 10, 3) := by decide +kernel
theorem dX9_requestAt_30 : decode cX9_requestAt 30 = .ok (.getfield 52, 3) := by decide +kernel
theorem dX9_requestAt_33 : decode cX9_requestAt 33 = .ok (.getfield 136, 3) := by decide +kernel
theorem dX9_requestAt_36 : decode cX9_requestAt 36 = .ok (.iload_n 1, 1) := by decide +kernel
theorem dX9_requestAt_37 : decode cX9_requestAt 37 = .ok (.iaload, 1) := by decide +kernel
theorem dX9_requestAt_38 : decode cX9_requestAt 38 = .ok (.goto 4, 3) := by decide +kernel
theorem dX9_requestAt_41 : decode cX9_requestAt 41 = .ok (.iconst (-1), 1) := by decide +kernel
theorem dX9_requestAt_42 : decode cX9_requestAt 42 = .ok (.ireturn, 1) := by decide +kernel
theorem thr_X9_requestAt_4 : ThrOk tX9_requestAt 46 48 "java/lang/IllegalArgumentException" := ⟨thf_48.1, qw_295, qw_28, thf_48.2.1, thf_48.2.2.1, thf_48.2.2.2.1, thf_48.2.2.2.2, by decide, by decide⟩
def kX9_requestAt : Nat → WOp := cN 20 (cN 7 (cN 1 (cN 0 (cL 0 (o_iload 1 1)) (cL 1 (o_if_ge 12 4))) (cN 4 (cL 4 (o_throw "java/lang/IllegalArgumentException")) (cL 7 (o_dup 8)))) (cN 13 (cN 12 (cL 12 (o_iload 13 1)) (cL 13 (o_aload 14 0))) (cN 14 (cL 14 (o_getf 17 7 0)) (cN 17 (cL 17 (o_getf 20 5 5)) (cL 20 (o_getf 23 4 0)))))) (cN 33 (cN 26 (cN 23 (cL 23 (o_icmp_ge 41 26)) (cL 26 (o_aload 27 0))) (cN 27 (cL 27 (o_getf 30 7 0)) (cN 30 (cL 30 (o_getf 33 5 5)) (cL 33 (o_getf 36 4 2))))) (cN 37 (cN 36 (cL 36 (o_iload 37 1)) (cL 37 (o_iald 38))) (cN 38 (cL 38 (o_goto 42)) (cN 41 (cL 41 (o_push 42 (-1))) (cL 42 (o_iret))))))
theorem sX9_requestAt : ∀ pc, Snd tX9_requestAt G1 pc (kX9_requestAt pc) := s_N (s_N (s_N (s_N (s_L (s_iload_n dX9_requestAt_0 rfl)) (s_L (s_o_if_ge dX9_requestAt_1 (by decide)))) (s_N (s_L (s_throw (thr_X9_requestAt_4) dX9_requestAt_4 dX9_requestAt_7 dX9_requestAt_8 dX9_requestAt_11)) (s_L (s_o_dup dX9_requestAt_7)))) (s_N (s_N (s_L (s_iload_n dX9_requestAt_12 rfl)) (s_L (s_aload_n dX9_requestAt_13 rfl))) (s_N (s_L (s_getf ok_7 (k := 0) (by decide) dX9_requestAt_14 qw_250)) (s_N (s_L (s_getf ok_5 (k := 5) (by decide) dX9_requestAt_17 qw_187)) (s_L (s_getf ok_4 (k := 0) (by decide) dX9_requestAt_20 qw_87)))))) (s_N (s_N (s_N (s_L (s_o_icmp_ge dX9_requestAt_23 (by decide))) (s_L (s_aload_n dX9_requestAt_26 rfl))) (s_N (s_L (s_getf ok_7 (k := 0) (by decide) dX9_requestAt_27 qw_250)) (s_N (s_L (s_getf ok_5 (k := 5) (by decide) dX9_requestAt_30 qw_187)) (s_L (s_getf ok_4 (k := 2) (by decide) dX9_requestAt_33 qw_92))))) (s_N (s_N (s_L (s_iload_n dX9_requestAt_36 rfl)) (s_L (s_iald dX9_requestAt_37))) (s_N (s_L (s_o_goto dX9_requestAt_38 (by decide))) (s_N (s_L (s_iconst dX9_requestAt_41 (by decide +kernel))) (s_L (s_iret rfl dX9_requestAt_42))))))
/-! PlateArm.logged -/
theorem dX9_logged_0 : decode cX9_logged 0 = .ok (.iload_n 1, 1) := by decide +kernel
theorem dX9_logged_1 : decode cX9_logged 1 = .ok (.ifCond .lt 12, 3) := by decide +kernel
theorem dX9_logged_4 : decode cX9_logged 4 = .ok (.iload_n 2, 1) := by decide +kernel
theorem dX9_logged_5 : decode cX9_logged 5 = .ok (.ifCond .lt 8, 3) := by decide +kernel
theorem dX9_logged_8 : decode cX9_logged 8 = .ok (.iload_n 2, 1) := by decide +kernel
theorem dX9_logged_9 : decode cX9_logged 9 = .ok (.iconst 5, 1) := by decide +kernel
theorem dX9_logged_10 : decode cX9_logged 10 = .ok (.if_icmp .lt 11, 3) := by decide +kernel
theorem dX9_logged_13 : decode cX9_logged 13 = .ok (.new 46, 3) := by decide +kernel
theorem dX9_logged_16 : decode cX9_logged 16 = .ok (.dup, 1) := by decide +kernel
theorem dX9_logged_17 : decode cX9_logged 17 = .ok (.invokespecial 48, 3) := by decide +kernel
theorem dX9_logged_20 : decode cX9_logged 20 = .ok (.athrow, 1) := by decide +kernel
theorem dX9_logged_21 : decode cX9_logged 21 = .ok (.iload_n 1, 1) := by decide +kernel
theorem dX9_logged_22 : decode cX9_logged 22 = .ok (.aload_n 0, 1) := by decide +kernel
theorem dX9_logged_23 : decode cX9_logged 23 = .ok (.getfield 10, 3) := by decide +kernel
theorem dX9_logged_26 : decode cX9_logged 26 = .ok (.getfield 112, 3) := by decide +kernel
theorem dX9_logged_29 : decode cX9_logged 29 = .ok (.invokevirtual 139, 3) := by decide +kernel
theorem dX9_logged_32 : decode cX9_logged 32 = .ok (.if_icmp .ge 18, 3) := by decide +kernel
theorem dX9_logged_35 : decode cX9_logged 35 = .ok (.aload_n 0, 1) := by decide +kernel
theorem dX9_logged_36 : decode cX9_logged 36 = .ok (.getfield 10, 3) := by decide +kernel
theorem dX9_logged_39 : decode cX9_logged 39 = .ok (.getfield 112, 3) := by decide +kernel
theorem dX9_logged_42 : decode cX9_logged 42 = .ok (.iload_n 1, 1) := by decide +kernel
theorem dX9_logged_43 : decode cX9_logged 43 = .ok (.iload_n 2, 1) := by decide +kernel
theorem dX9_logged_44 : decode cX9_logged 44 = .ok (.invokevirtual 142, 3) := by decide +kernel
theorem dX9_logged_47 : decode cX9_logged 47 = .ok (.goto 4, 3) := by decide +kernel
theorem dX9_logged_50 : decode cX9_logged 50 = .ok (.iconst (-1), 1) := by decide +kernel
theorem dX9_logged_51 : decode cX9_logged 51 = .ok (.ireturn, 1) := by decide +kernel
theorem thr_X9_logged_13 : ThrOk tX9_logged 46 48 "java/lang/IllegalArgumentException" := ⟨thf_48.1, qw_295, qw_28, thf_48.2.1, thf_48.2.2.1, thf_48.2.2.2.1, thf_48.2.2.2.2, by decide, by decide⟩
theorem cc_X9_logged_X4_kept : CallC tX9_logged tX4_kept 0 := ⟨by decide +kernel, by decide +kernel, by decide +kernel, by decide, by decide, qw_19, qw_638⟩
theorem cc_X9_logged_X4_valueOf : CallC tX9_logged tX4_valueOf 2 := ⟨by decide +kernel, by decide +kernel, by decide +kernel, by decide, by decide, qw_19, qw_645⟩
def kX9_logged : Nat → WOp := cN 23 (cN 9 (cN 4 (cN 0 (cL 0 (o_iload 1 1)) (cN 1 (cL 1 (o_if_lt 13 4)) (cL 4 (o_iload 5 2)))) (cN 5 (cL 5 (o_if_lt 13 8)) (cN 8 (cL 8 (o_iload 9 2)) (cL 9 (o_push 10 5))))) (cN 16 (cN 10 (cL 10 (o_icmp_lt 21 13)) (cN 13 (cL 13 (o_throw "java/lang/IllegalArgumentException")) (cL 16 (o_dup 17)))) (cN 21 (cL 21 (o_iload 22 1)) (cN 22 (cL 22 (o_aload 23 0)) (cL 23 (o_getf 26 7 0)))))) (cN 39 (cN 32 (cN 26 (cL 26 (o_getf 29 5 6)) (cN 29 (cL 29 (o_callV 32 3 0 tX4_kept 0 0)) (cL 32 (o_icmp_ge 50 35)))) (cN 35 (cL 35 (o_aload 36 0)) (cN 36 (cL 36 (o_getf 39 7 0)) (cL 39 (o_getf 42 5 6))))) (cN 44 (cN 42 (cL 42 (o_iload 43 1)) (cN 43 (cL 43 (o_iload 44 2)) (cL 44 (o_callV 47 3 2 tX4_valueOf 0 0)))) (cN 47 (cL 47 (o_goto 51)) (cN 50 (cL 50 (o_push 51 (-1))) (cL 51 (o_iret))))))
theorem sX9_logged : ∀ pc, Snd tX9_logged G1 pc (kX9_logged pc) := s_N (s_N (s_N (s_N (s_L (s_iload_n dX9_logged_0 rfl)) (s_N (s_L (s_o_if_lt dX9_logged_1 (by decide))) (s_L (s_iload_n dX9_logged_4 rfl)))) (s_N (s_L (s_o_if_lt dX9_logged_5 (by decide))) (s_N (s_L (s_iload_n dX9_logged_8 rfl)) (s_L (s_iconst dX9_logged_9 (by decide +kernel)))))) (s_N (s_N (s_L (s_o_icmp_lt dX9_logged_10 (by decide))) (s_N (s_L (s_throw (thr_X9_logged_13) dX9_logged_13 dX9_logged_16 dX9_logged_17 dX9_logged_20)) (s_L (s_o_dup dX9_logged_16)))) (s_N (s_L (s_iload_n dX9_logged_21 rfl)) (s_N (s_L (s_aload_n dX9_logged_22 rfl)) (s_L (s_getf ok_7 (k := 0) (by decide) dX9_logged_23 qw_250)))))) (s_N (s_N (s_N (s_L (s_getf ok_5 (k := 6) (by decide) dX9_logged_26 qw_189)) (s_N (s_L (s_callV (d' := tX4_kept) (mc := 0) (ms := 0) ok_3 cc_X9_logged_X4_kept qw_635 qw_636 qw_637 dX9_logged_29)) (s_L (s_o_icmp_ge dX9_logged_32 (by decide))))) (s_N (s_L (s_aload_n dX9_logged_35 rfl)) (s_N (s_L (s_getf ok_7 (k := 0) (by decide) dX9_logged_36 qw_250)) (s_L (s_getf ok_5 (k := 6) (by decide) dX9_logged_39 qw_189))))) (s_N (s_N (s_L (s_iload_n dX9_logged_42 rfl)) (s_N (s_L (s_iload_n dX9_logged_43 rfl)) (s_L (s_callV (d' := tX4_valueOf) (mc := 0) (ms := 0) ok_3 cc_X9_logged_X4_valueOf qw_642 qw_643 qw_644 dX9_logged_44)))) (s_N (s_L (s_o_goto dX9_logged_47 (by decide))) (s_N (s_L (s_iconst dX9_logged_50 (by decide +kernel))) (s_L (s_iret rfl dX9_logged_51))))))
/-! PlateArm.arm -/
theorem dX9_arm_0 : decode cX9_arm 0 = .ok (.iload_n 1, 1) := by decide +kernel
theorem dX9_arm_1 : decode cX9_arm 1 = .ok (.tableswitch 110 0 5 #[39, 50, 61, 72, 91, 102], 39) := by decide +kernel
theorem dX9_arm_40 : decode cX9_arm 40 = .ok (.aload_n 0, 1) := by decide +kernel
theorem dX9_arm_41 : decode cX9_arm 41 = .ok (.getfield 10, 3) := by decide +kernel
theorem dX9_arm_44 : decode cX9_arm 44 = .ok (.getfield 145, 3) := by decide +kernel
theorem dX9_arm_47 : decode cX9_arm 47 = .ok (.getfield 149, 3) := by decide +kernel
theorem dX9_arm_50 : decode cX9_arm 50 = .ok (.ireturn, 1) := by decide +kernel
theorem dX9_arm_51 : decode cX9_arm 51 = .ok (.aload_n 0, 1) := by decide +kernel
theorem dX9_arm_52 : decode cX9_arm 52 = .ok (.getfield 10, 3) := by decide +kernel
theorem dX9_arm_55 : decode cX9_arm 55 = .ok (.getfield 145, 3) := by decide +kernel
theorem dX9_arm_58 : decode cX9_arm 58 = .ok (.getfield 154, 3) := by decide +kernel
theorem dX9_arm_61 : decode cX9_arm 61 = .ok (.ireturn, 1) := by decide +kernel
theorem dX9_arm_62 : decode cX9_arm 62 = .ok (.aload_n 0, 1) := by decide +kernel
theorem dX9_arm_63 : decode cX9_arm 63 = .ok (.getfield 10, 3) := by decide +kernel
theorem dX9_arm_66 : decode cX9_arm 66 = .ok (.getfield 145, 3) := by decide +kernel
theorem dX9_arm_69 : decode cX9_arm 69 = .ok (.getfield 157, 3) := by decide +kernel
theorem dX9_arm_72 : decode cX9_arm 72 = .ok (.ireturn, 1) := by decide +kernel
theorem dX9_arm_73 : decode cX9_arm 73 = .ok (.aload_n 0, 1) := by decide +kernel
theorem dX9_arm_74 : decode cX9_arm 74 = .ok (.getfield 10, 3) := by decide +kernel
theorem dX9_arm_77 : decode cX9_arm 77 = .ok (.getfield 145, 3) := by decide +kernel
theorem dX9_arm_80 : decode cX9_arm 80 = .ok (.getfield 160, 3) := by decide +kernel
theorem dX9_arm_83 : decode cX9_arm 83 = .ok (.ifCond .eq 7, 3) := by decide +kernel
theorem dX9_arm_86 : decode cX9_arm 86 = .ok (.iconst 1, 1) := by decide +kernel
theorem dX9_arm_87 : decode cX9_arm 87 = .ok (.goto 4, 3) := by decide +kernel
theorem dX9_arm_90 : decode cX9_arm 90 = .ok (.iconst 0, 1) := by decide +kernel
theorem dX9_arm_91 : decode cX9_arm 91 = .ok (.ireturn, 1) := by decide +kernel
theorem dX9_arm_92 : decode cX9_arm 92 = .ok (.aload_n 0, 1) := by decide +kernel
theorem dX9_arm_93 : decode cX9_arm 93 = .ok (.getfield 10, 3) := by decide +kernel
theorem dX9_arm_96 : decode cX9_arm 96 = .ok (.getfield 145, 3) := by decide +kernel
theorem dX9_arm_99 : decode cX9_arm 99 = .ok (.getfield 164, 3) := by decide +kernel
theorem dX9_arm_102 : decode cX9_arm 102 = .ok (.ireturn, 1) := by decide +kernel
theorem dX9_arm_103 : decode cX9_arm 103 = .ok (.aload_n 0, 1) := by decide +kernel
theorem dX9_arm_104 : decode cX9_arm 104 = .ok (.getfield 10, 3) := by decide +kernel
theorem dX9_arm_107 : decode cX9_arm 107 = .ok (.invokevirtual 167, 3) := by decide +kernel
theorem dX9_arm_110 : decode cX9_arm 110 = .ok (.ireturn, 1) := by decide +kernel
theorem dX9_arm_111 : decode cX9_arm 111 = .ok (.new 46, 3) := by decide +kernel
theorem dX9_arm_114 : decode cX9_arm 114 = .ok (.dup, 1) := by decide +kernel
theorem dX9_arm_115 : decode cX9_arm 115 = .ok (.invokespecial 48, 3) := by decide +kernel
theorem dX9_arm_118 : decode cX9_arm 118 = .ok (.athrow, 1) := by decide +kernel
theorem thr_X9_arm_111 : ThrOk tX9_arm 46 48 "java/lang/IllegalArgumentException" := ⟨thf_48.1, qw_295, qw_28, thf_48.2.1, thf_48.2.2.1, thf_48.2.2.2.1, thf_48.2.2.2.2, by decide, by decide⟩
theorem cc_X9_arm_X6_sectorUnderArm : CallC tX9_arm tX6_sectorUnderArm 0 := ⟨by decide +kernel, by decide +kernel, by decide +kernel, by decide, by decide, qw_16, qw_557⟩
def kX9_arm : Nat → WOp := cN 73 (cN 52 (cN 41 (cN 1 (cN 0 (cL 0 (o_iload 1 1)) (cL 1 (o_tsw 0 [40, 51, 62, 73, 92, 103] 111))) (cN 40 (cL 40 (o_aload 41 0)) (cL 41 (o_getf 44 7 0)))) (cN 47 (cN 44 (cL 44 (o_getf 47 5 4)) (cL 47 (o_getf 50 0 0))) (cN 50 (cL 50 (o_iret)) (cN 51 (cL 51 (o_aload 52 0)) (cL 52 (o_getf 55 7 0)))))) (cN 62 (cN 58 (cN 55 (cL 55 (o_getf 58 5 4)) (cL 58 (o_getf 61 0 1))) (cN 61 (cL 61 (o_iret)) (cL 62 (o_aload 63 0)))) (cN 66 (cN 63 (cL 63 (o_getf 66 7 0)) (cL 66 (o_getf 69 5 4))) (cN 69 (cL 69 (o_getf 72 0 2)) (cN 72 (cL 72 (o_iret)) (cL 73 (o_aload 74 0))))))) (cN 92 (cN 83 (cN 77 (cN 74 (cL 74 (o_getf 77 7 0)) (cL 77 (o_getf 80 5 4))) (cN 80 (cL 80 (o_getf 83 0 3)) (cL 83 (o_if_eq 90 86)))) (cN 87 (cN 86 (cL 86 (o_push 87 1)) (cL 87 (o_goto 91))) (cN 90 (cL 90 (o_push 91 0)) (cN 91 (cL 91 (o_iret)) (cL 92 (o_aload 93 0)))))) (cN 103 (cN 96 (cN 93 (cL 93 (o_getf 96 7 0)) (cL 96 (o_getf 99 5 4))) (cN 99 (cL 99 (o_getf 102 0 4)) (cN 102 (cL 102 (o_iret)) (cL 103 (o_aload 104 0))))) (cN 107 (cN 104 (cL 104 (o_getf 107 7 0)) (cL 107 (o_callV 110 5 0 tX6_sectorUnderArm 0 0))) (cN 110 (cL 110 (o_iret)) (cN 111 (cL 111 (o_throw "java/lang/IllegalArgumentException")) (cL 114 (o_dup 115)))))))
theorem sX9_arm : ∀ pc, Snd tX9_arm G1 pc (kX9_arm pc) := s_N (s_N (s_N (s_N (s_N (s_L (s_iload_n dX9_arm_0 rfl)) (s_L (s_tsw dX9_arm_1 (by decide +kernel) (by decide) (by decide) (by decide) (by intro k t h; match k, h with | 0, h => exact ⟨39, rfl, by cases h; decide⟩ | 1, h => exact ⟨50, rfl, by cases h; decide⟩ | 2, h => exact ⟨61, rfl, by cases h; decide⟩ | 3, h => exact ⟨72, rfl, by cases h; decide⟩ | 4, h => exact ⟨91, rfl, by cases h; decide⟩ | 5, h => exact ⟨102, rfl, by cases h; decide⟩ | k + 6, h => simp at h) (by decide)))) (s_N (s_L (s_aload_n dX9_arm_40 rfl)) (s_L (s_getf ok_7 (k := 0) (by decide) dX9_arm_41 qw_250)))) (s_N (s_N (s_L (s_getf ok_5 (k := 4) (by decide) dX9_arm_44 qw_185)) (s_L (s_getf ok_0 (k := 0) (by decide) dX9_arm_47 qw_55))) (s_N (s_L (s_iret rfl dX9_arm_50)) (s_N (s_L (s_aload_n dX9_arm_51 rfl)) (s_L (s_getf ok_7 (k := 0) (by decide) dX9_arm_52 qw_250)))))) (s_N (s_N (s_N (s_L (s_getf ok_5 (k := 4) (by decide) dX9_arm_55 qw_185)) (s_L (s_getf ok_0 (k := 1) (by decide) dX9_arm_58 qw_58))) (s_N (s_L (s_iret rfl dX9_arm_61)) (s_L (s_aload_n dX9_arm_62 rfl)))) (s_N (s_N (s_L (s_getf ok_7 (k := 0) (by decide) dX9_arm_63 qw_250)) (s_L (s_getf ok_5 (k := 4) (by decide) dX9_arm_66 qw_185))) (s_N (s_L (s_getf ok_0 (k := 2) (by decide) dX9_arm_69 qw_61)) (s_N (s_L (s_iret rfl dX9_arm_72)) (s_L (s_aload_n dX9_arm_73 rfl))))))) (s_N (s_N (s_N (s_N (s_L (s_getf ok_7 (k := 0) (by decide) dX9_arm_74 qw_250)) (s_L (s_getf ok_5 (k := 4) (by decide) dX9_arm_77 qw_185))) (s_N (s_L (s_getf ok_0 (k := 3) (by decide) dX9_arm_80 qw_64)) (s_L (s_o_if_eq dX9_arm_83 (by decide))))) (s_N (s_N (s_L (s_iconst dX9_arm_86 (by decide +kernel))) (s_L (s_o_goto dX9_arm_87 (by decide)))) (s_N (s_L (s_iconst dX9_arm_90 (by decide +kernel))) (s_N (s_L (s_iret rfl dX9_arm_91)) (s_L (s_aload_n dX9_arm_92 rfl)))))) (s_N (s_N (s_N (s_L (s_getf ok_7 (k := 0) (by decide) dX9_arm_93 qw_250)) (s_L (s_getf ok_5 (k := 4) (by decide) dX9_arm_96 qw_185))) (s_N (s_L (s_getf ok_0 (k := 4) (by decide) dX9_arm_99 qw_67)) (s_N (s_L (s_iret rfl dX9_arm_102)) (s_L (s_aload_n dX9_arm_103 rfl))))) (s_N (s_N (s_L (s_getf ok_7 (k := 0) (by decide) dX9_arm_104 qw_250)) (s_L (s_callV (d' := tX6_sectorUnderArm) (mc := 0) (ms := 0) ok_5 cc_X9_arm_X6_sectorUnderArm qw_653 qw_555 qw_556 dX9_arm_107))) (s_N (s_L (s_iret rfl dX9_arm_110)) (s_N (s_L (s_throw (thr_X9_arm_111) dX9_arm_111 dX9_arm_114 dX9_arm_115 dX9_arm_118)) (s_L (s_o_dup dX9_arm_114)))))))
/-! PlateArm.whole -/
theorem dX9_whole_0 : decode cX9_whole 0 = .ok (.iload_n 1, 1) := by decide +kernel
theorem dX9_whole_1 : decode cX9_whole 1 = .ok (.tableswitch 269 0 17 #[87, 95, 103, 113, 123, 133, 143, 151, 162, 173, 184, 195, 206, 217, 228, 239, 250, 261], 87) := by decide +kernel
theorem dX9_whole_88 : decode cX9_whole 88 = .ok (.aload_n 0, 1) := by decide +kernel
theorem dX9_whole_89 : decode cX9_whole 89 = .ok (.getfield 10, 3) := by decide +kernel
theorem dX9_whole_92 : decode cX9_whole 92 = .ok (.getfield 170, 3) := by decide +kernel
theorem dX9_whole_95 : decode cX9_whole 95 = .ok (.ireturn, 1) := by decide +kernel
theorem dX9_whole_96 : decode cX9_whole 96 = .ok (.aload_n 0, 1) := by decide +kernel
theorem dX9_whole_97 : decode cX9_whole 97 = .ok (.getfield 10, 3) := by decide +kernel
theorem dX9_whole_100 : decode cX9_whole 100 = .ok (.getfield 173, 3) := by decide +kernel
theorem dX9_whole_103 : decode cX9_whole 103 = .ok (.ireturn, 1) := by decide +kernel
theorem dX9_whole_104 : decode cX9_whole 104 = .ok (.aload_n 0, 1) := by decide +kernel
theorem dX9_whole_105 : decode cX9_whole 105 = .ok (.getfield 10, 3) := by decide +kernel
theorem dX9_whole_108 : decode cX9_whole 108 = .ok (.getfield 102, 3) := by decide +kernel
theorem dX9_whole_111 : decode cX9_whole 111 = .ok (.iconst 0, 1) := by decide +kernel
theorem dX9_whole_112 : decode cX9_whole 112 = .ok (.iaload, 1) := by decide +kernel
theorem dX9_whole_113 : decode cX9_whole 113 = .ok (.ireturn, 1) := by decide +kernel
theorem dX9_whole_114 : decode cX9_whole 114 = .ok (.aload_n 0, 1) := by decide +kernel
theorem dX9_whole_115 : decode cX9_whole 115 = .ok (.getfield 10, 3) := by decide +kernel
theorem dX9_whole_118 : decode cX9_whole 118 = .ok (.getfield 102, 3) := by decide +kernel
theorem dX9_whole_121 : decode cX9_whole 121 = .ok (.iconst 1, 1) := by decide +kernel
theorem dX9_whole_122 : decode cX9_whole 122 = .ok (.iaload, 1) := by decide +kernel
theorem dX9_whole_123 : decode cX9_whole 123 = .ok (.ireturn, 1) := by decide +kernel
theorem dX9_whole_124 : decode cX9_whole 124 = .ok (.aload_n 0, 1) := by decide +kernel
theorem dX9_whole_125 : decode cX9_whole 125 = .ok (.getfield 10, 3) := by decide +kernel
theorem dX9_whole_128 : decode cX9_whole 128 = .ok (.getfield 102, 3) := by decide +kernel
theorem dX9_whole_131 : decode cX9_whole 131 = .ok (.iconst 2, 1) := by decide +kernel
theorem dX9_whole_132 : decode cX9_whole 132 = .ok (.iaload, 1) := by decide +kernel
theorem dX9_whole_133 : decode cX9_whole 133 = .ok (.ireturn, 1) := by decide +kernel
theorem dX9_whole_134 : decode cX9_whole 134 = .ok (.aload_n 0, 1) := by decide +kernel
theorem dX9_whole_135 : decode cX9_whole 135 = .ok (.getfield 10, 3) := by decide +kernel
theorem dX9_whole_138 : decode cX9_whole 138 = .ok (.getfield 102, 3) := by decide +kernel
theorem dX9_whole_141 : decode cX9_whole 141 = .ok (.iconst 3, 1) := by decide +kernel
theorem dX9_whole_142 : decode cX9_whole 142 = .ok (.iaload, 1) := by decide +kernel
theorem dX9_whole_143 : decode cX9_whole 143 = .ok (.ireturn, 1) := by decide +kernel
theorem dX9_whole_144 : decode cX9_whole 144 = .ok (.aload_n 0, 1) := by decide +kernel
theorem dX9_whole_145 : decode cX9_whole 145 = .ok (.getfield 10, 3) := by decide +kernel
theorem dX9_whole_148 : decode cX9_whole 148 = .ok (.getfield 77, 3) := by decide +kernel
theorem dX9_whole_151 : decode cX9_whole 151 = .ok (.ireturn, 1) := by decide +kernel
theorem dX9_whole_152 : decode cX9_whole 152 = .ok (.aload_n 0, 1) := by decide +kernel
theorem dX9_whole_153 : decode cX9_whole 153 = .ok (.getfield 10, 3) := by decide +kernel
theorem dX9_whole_156 : decode cX9_whole 156 = .ok (.getfield 52, 3) := by decide +kernel
theorem dX9_whole_159 : decode cX9_whole 159 = .ok (.getfield 56, 3) := by decide +kernel
theorem dX9_whole_162 : decode cX9_whole 162 = .ok (.ireturn, 1) := by decide +kernel
theorem dX9_whole_163 : decode cX9_whole 163 = .ok (.aload_n 0, 1) := by decide +kernel
theorem dX9_whole_164 : decode cX9_whole 164 = .ok (.getfield 10, 3) := by decide +kernel
theorem dX9_whole_167 : decode cX9_whole 167 = .ok (.getfield 52, 3) := by decide +kernel
theorem dX9_whole_170 : decode cX9_whole 170 = .ok (.getfield 176, 3) := by decide +kernel
theorem dX9_whole_173 : decode cX9_whole 173 = .ok (.ireturn, 1) := by decide +kernel
theorem dX9_whole_174 : decode cX9_whole 174 = .ok (.aload_n 0, 1) := by decide +kernel
theorem dX9_whole_175 : decode cX9_whole 175 = .ok (.getfield 10, 3) := by decide +kernel
theorem dX9_whole_178 : decode cX9_whole 178 = .ok (.getfield 112, 3) := by decide +kernel
theorem dX9_whole_181 : decode cX9_whole 181 = .ok (.getfield 116, 3) := by decide +kernel
theorem dX9_whole_184 : decode cX9_whole 184 = .ok (.ireturn, 1) := by decide +kernel
theorem dX9_whole_185 : decode cX9_whole 185 = .ok (.aload_n 0, 1) := by decide +kernel
theorem dX9_whole_186 : decode cX9_whole 186 = .ok (.getfield 10, 3) := by decide +kernel
theorem dX9_whole_189 : decode cX9_whole 189 = .ok (.getfield 179, 3) := by decide +kernel
theorem dX9_whole_192 : decode cX9_whole 192 = .ok (.getfield 183, 3) := by decide +kernel
theorem dX9_whole_195 : decode cX9_whole 195 = .ok (.ireturn, 1) := by decide +kernel
theorem dX9_whole_196 : decode cX9_whole 196 = .ok (.aload_n 0, 1) := by decide +kernel
theorem dX9_whole_197 : decode cX9_whole 197 = .ok (.getfield 10, 3) := by decide +kernel
theorem dX9_whole_200 : decode cX9_whole 200 = .ok (.getfield 179, 3) := by decide +kernel
theorem dX9_whole_203 : decode cX9_whole 203 = .ok (.getfield 188, 3) := by decide +kernel
theorem dX9_whole_206 : decode cX9_whole 206 = .ok (.ireturn, 1) := by decide +kernel
theorem dX9_whole_207 : decode cX9_whole 207 = .ok (.aload_n 0, 1) := by decide +kernel
theorem dX9_whole_208 : decode cX9_whole 208 = .ok (.getfield 10, 3) := by decide +kernel
theorem dX9_whole_211 : decode cX9_whole 211 = .ok (.getfield 179, 3) := by decide +kernel
theorem dX9_whole_214 : decode cX9_whole 214 = .ok (.getfield 191, 3) := by decide +kernel
theorem dX9_whole_217 : decode cX9_whole 217 = .ok (.ireturn, 1) := by decide +kernel
theorem dX9_whole_218 : decode cX9_whole 218 = .ok (.aload_n 0, 1) := by decide +kernel
theorem dX9_whole_219 : decode cX9_whole 219 = .ok (.getfield 10, 3) := by decide +kernel
theorem dX9_whole_222 : decode cX9_whole 222 = .ok (.getfield 179, 3) := by decide +kernel
theorem dX9_whole_225 : decode cX9_whole 225 = .ok (.getfield 194, 3) := by decide +kernel
theorem dX9_whole_228 : decode cX9_whole 228 = .ok (.ireturn, 1) := by decide +kernel
theorem dX9_whole_229 : decode cX9_whole 229 = .ok (.aload_n 0, 1) := by decide +kernel
theorem dX9_whole_230 : decode cX9_whole 230 = .ok (.getfield 10, 3) := by decide +kernel
theorem dX9_whole_233 : decode cX9_whole 233 = .ok (.getfield 179, 3) := by decide +kernel
theorem dX9_whole_236 : decode cX9_whole 236 = .ok (.getfield 197, 3) := by decide +kernel
theorem dX9_whole_239 : decode cX9_whole 239 = .ok (.ireturn, 1) := by decide +kernel
theorem dX9_whole_240 : decode cX9_whole 240 = .ok (.aload_n 0, 1) := by decide +kernel
theorem dX9_whole_241 : decode cX9_whole 241 = .ok (.getfield 10, 3) := by decide +kernel
theorem dX9_whole_244 : decode cX9_whole 244 = .ok (.getfield 179, 3) := by decide +kernel
theorem dX9_whole_247 : decode cX9_whole 247 = .ok (.getfield 200, 3) := by decide +kernel
theorem dX9_whole_250 : decode cX9_whole 250 = .ok (.ireturn, 1) := by decide +kernel
theorem dX9_whole_251 : decode cX9_whole 251 = .ok (.aload_n 0, 1) := by decide +kernel
theorem dX9_whole_252 : decode cX9_whole 252 = .ok (.getfield 10, 3) := by decide +kernel
theorem dX9_whole_255 : decode cX9_whole 255 = .ok (.getfield 179, 3) := by decide +kernel
theorem dX9_whole_258 : decode cX9_whole 258 = .ok (.getfield 203, 3) := by decide +kernel
theorem dX9_whole_261 : decode cX9_whole 261 = .ok (.ireturn, 1) := by decide +kernel
theorem dX9_whole_262 : decode cX9_whole 262 = .ok (.aload_n 0, 1) := by decide +kernel
theorem dX9_whole_263 : decode cX9_whole 263 = .ok (.getfield 31, 3) := by decide +kernel
theorem dX9_whole_266 : decode cX9_whole 266 = .ok (.getfield 206, 3) := by decide +kernel
theorem dX9_whole_269 : decode cX9_whole 269 = .ok (.ireturn, 1) := by decide +kernel
theorem dX9_whole_270 : decode cX9_whole 270 = .ok (.new 46, 3) := by decide +kernel
theorem dX9_whole_273 : decode cX9_whole 273 = .ok (.dup, 1) := by decide +kernel
theorem dX9_whole_274 : decode cX9_whole 274 = .ok (.invokespecial 48, 3) := by decide +kernel
theorem dX9_whole_277 : decode cX9_whole 277 = .ok (.athrow, 1) := by decide +kernel
theorem thr_X9_whole_270 : ThrOk tX9_whole 46 48 "java/lang/IllegalArgumentException" := ⟨thf_48.1, qw_295, qw_28, thf_48.2.1, thf_48.2.2.1, thf_48.2.2.2.1, thf_48.2.2.2.2, by decide, by decide⟩
def kX9_whole : Nat → WOp := cN 170 (cN 124 (cN 104 (cN 92 (cN 1 (cN 0 (cL 0 (o_iload 1 1)) (cL 1 (o_tsw 0 [88, 96, 104, 114, 124, 134, 144, 152, 163, 174, 185, 196, 207, 218, 229, 240, 251, 262] 270))) (cN 88 (cL 88 (o_aload 89 0)) (cN 89 (cL 89 (o_getf 92 7 0)) (cL 92 (o_getf 95 5 0))))) (cN 97 (cN 95 (cL 95 (o_iret)) (cN 96 (cL 96 (o_aload 97 0)) (cL 97 (o_getf 100 7 0)))) (cN 100 (cL 100 (o_getf 103 5 1)) (cN 103 (cL 103 (o_iret)) (cL 104 (o_aload 105 0)))))) (cN 114 (cN 111 (cN 105 (cL 105 (o_getf 108 7 0)) (cN 108 (cL 108 (o_getf 111 5 3)) (cL 111 (o_push 112 0)))) (cN 112 (cL 112 (o_iald 113)) (cN 113 (cL 113 (o_iret)) (cL 114 (o_aload 115 0))))) (cN 121 (cN 115 (cL 115 (o_getf 118 7 0)) (cN 118 (cL 118 (o_getf 121 5 3)) (cL 121 (o_push 122 1)))) (cN 122 (cL 122 (o_iald 123)) (cN 123 (cL 123 (o_iret)) (cL 124 (o_aload 125 0))))))) (cN 144 (cN 134 (cN 131 (cN 125 (cL 125 (o_getf 128 7 0)) (cN 128 (cL 128 (o_getf 131 5 3)) (cL 131 (o_push 132 2)))) (cN 132 (cL 132 (o_iald 133)) (cN 133 (cL 133 (o_iret)) (cL 134 (o_aload 135 0))))) (cN 141 (cN 135 (cL 135 (o_getf 138 7 0)) (cN 138 (cL 138 (o_getf 141 5 3)) (cL 141 (o_push 142 3)))) (cN 142 (cL 142 (o_iald 143)) (cN 143 (cL 143 (o_iret)) (cL 144 (o_aload 145 0)))))) (cN 156 (cN 151 (cN 145 (cL 145 (o_getf 148 7 0)) (cN 148 (cL 148 (o_getf 151 5 2)) (cL 151 (o_iret)))) (cN 152 (cL 152 (o_aload 153 0)) (cN 153 (cL 153 (o_getf 156 7 0)) (cL 156 (o_getf 159 5 5))))) (cN 163 (cN 159 (cL 159 (o_getf 162 4 0)) (cN 162 (cL 162 (o_iret)) (cL 163 (o_aload 164 0)))) (cN 164 (cL 164 (o_getf 167 7 0)) (cN 167 (cL 167 (o_getf 170 5 5)) (cL 170 (o_getf 173 4 1)))))))) (cN 219 (cN 195 (cN 181 (cN 174 (cN 173 (cL 173 (o_iret)) (cL 174 (o_aload 175 0))) (cN 175 (cL 175 (o_getf 178 7 0)) (cN 178 (cL 178 (o_getf 181 5 6)) (cL 181 (o_getf 184 3 0))))) (cN 186 (cN 184 (cL 184 (o_iret)) (cN 185 (cL 185 (o_aload 186 0)) (cL 186 (o_getf 189 7 0)))) (cN 189 (cL 189 (o_getf 192 5 7)) (cN 192 (cL 192 (o_getf 195 6 0)) (cL 195 (o_iret)))))) (cN 207 (cN 200 (cN 196 (cL 196 (o_aload 197 0)) (cN 197 (cL 197 (o_getf 200 7 0)) (cL 200 (o_getf 203 5 7)))) (cN 203 (cL 203 (o_getf 206 6 1)) (cN 206 (cL 206 (o_iret)) (cL 207 (o_aload 208 0))))) (cN 214 (cN 208 (cL 208 (o_getf 211 7 0)) (cN 211 (cL 211 (o_getf 214 5 7)) (cL 214 (o_getf 217 6 2)))) (cN 217 (cL 217 (o_iret)) (cN 218 (cL 218 (o_aload 219 0)) (cL 219 (o_getf 222 7 0))))))) (cN 247 (cN 233 (cN 228 (cN 222 (cL 222 (o_getf 225 5 7)) (cN 225 (cL 225 (o_getf 228 6 3)) (cL 228 (o_iret)))) (cN 229 (cL 229 (o_aload 230 0)) (cN 230 (cL 230 (o_getf 233 7 0)) (cL 233 (o_getf 236 5 7))))) (cN 240 (cN 236 (cL 236 (o_getf 239 6 4)) (cN 239 (cL 239 (o_iret)) (cL 240 (o_aload 241 0)))) (cN 241 (cL 241 (o_getf 244 7 0)) (cN 244 (cL 244 (o_getf 247 5 7)) (cL 247 (o_getf 250 6 5)))))) (cN 261 (cN 252 (cN 250 (cL 250 (o_iret)) (cN 251 (cL 251 (o_aload 252 0)) (cL 252 (o_getf 255 7 0)))) (cN 255 (cL 255 (o_getf 258 5 7)) (cN 258 (cL 258 (o_getf 261 6 6)) (cL 261 (o_iret))))) (cN 266 (cN 262 (cL 262 (o_aload 263 0)) (cN 263 (cL 263 (o_getf 266 7 5)) (cL 266 (o_getf 269 2 0)))) (cN 269 (cL 269 (o_iret)) (cN 270 (cL 270 (o_throw "java/lang/IllegalArgumentException")) (cL 273 (o_dup 274))))))))
theorem sX9_whole : ∀ pc, Snd tX9_whole G1 pc (kX9_whole pc) := s_N (s_N (s_N (s_N (s_N (s_N (s_L (s_iload_n dX9_whole_0 rfl)) (s_L (s_tsw dX9_whole_1 (by decide +kernel) (by decide) (by decide) (by decide) (by intro k t h; match k, h with | 0, h => exact ⟨87, rfl, by cases h; decide⟩ | 1, h => exact ⟨95, rfl, by cases h; decide⟩ | 2, h => exact ⟨103, rfl, by cases h; decide⟩ | 3, h => exact ⟨113, rfl, by cases h; decide⟩ | 4, h => exact ⟨123, rfl, by cases h; decide⟩ | 5, h => exact ⟨133, rfl, by cases h; decide⟩ | 6, h => exact ⟨143, rfl, by cases h; decide⟩ | 7, h => exact ⟨151, rfl, by cases h; decide⟩ | 8, h => exact ⟨162, rfl, by cases h; decide⟩ | 9, h => exact ⟨173, rfl, by cases h; decide⟩ | 10, h => exact ⟨184, rfl, by cases h; decide⟩ | 11, h => exact ⟨195, rfl, by cases h; decide⟩ | 12, h => exact ⟨206, rfl, by cases h; decide⟩ | 13, h => exact ⟨217, rfl, by cases h; decide⟩ | 14, h => exact ⟨228, rfl, by cases h; decide⟩ | 15, h => exact ⟨239, rfl, by cases h; decide⟩ | 16, h => exact ⟨250, rfl, by cases h; decide⟩ | 17, h => exact ⟨261, rfl, by cases h; decide⟩ | k + 18, h => simp at h) (by decide)))) (s_N (s_L (s_aload_n dX9_whole_88 rfl)) (s_N (s_L (s_getf ok_7 (k := 0) (by decide) dX9_whole_89 qw_250)) (s_L (s_getf ok_5 (k := 0) (by decide) dX9_whole_92 qw_177))))) (s_N (s_N (s_L (s_iret rfl dX9_whole_95)) (s_N (s_L (s_aload_n dX9_whole_96 rfl)) (s_L (s_getf ok_7 (k := 0) (by decide) dX9_whole_97 qw_250)))) (s_N (s_L (s_getf ok_5 (k := 1) (by decide) dX9_whole_100 qw_179)) (s_N (s_L (s_iret rfl dX9_whole_103)) (s_L (s_aload_n dX9_whole_104 rfl)))))) (s_N (s_N (s_N (s_L (s_getf ok_7 (k := 0) (by decide) dX9_whole_105 qw_250)) (s_N (s_L (s_getf ok_5 (k := 3) (by decide) dX9_whole_108 qw_183)) (s_L (s_iconst dX9_whole_111 (by decide +kernel))))) (s_N (s_L (s_iald dX9_whole_112)) (s_N (s_L (s_iret rfl dX9_whole_113)) (s_L (s_aload_n dX9_whole_114 rfl))))) (s_N (s_N (s_L (s_getf ok_7 (k := 0) (by decide) dX9_whole_115 qw_250)) (s_N (s_L (s_getf ok_5 (k := 3) (by decide) dX9_whole_118 qw_183)) (s_L (s_iconst dX9_whole_121 (by decide +kernel))))) (s_N (s_L (s_iald dX9_whole_122)) (s_N (s_L (s_iret rfl dX9_whole_123)) (s_L (s_aload_n dX9_whole_124 rfl))))))) (s_N (s_N (s_N (s_N (s_L (s_getf ok_7 (k := 0) (by decide) dX9_whole_125 qw_250)) (s_N (s_L (s_getf ok_5 (k := 3) (by decide) dX9_whole_128 qw_183)) (s_L (s_iconst dX9_whole_131 (by decide +kernel))))) (s_N (s_L (s_iald dX9_whole_132)) (s_N (s_L (s_iret rfl dX9_whole_133)) (s_L (s_aload_n dX9_whole_134 rfl))))) (s_N (s_N (s_L (s_getf ok_7 (k := 0) (by decide) dX9_whole_135 qw_250)) (s_N (s_L (s_getf ok_5 (k := 3) (by decide) dX9_whole_138 qw_183)) (s_L (s_iconst dX9_whole_141 (by decide +kernel))))) (s_N (s_L (s_iald dX9_whole_142)) (s_N (s_L (s_iret rfl dX9_whole_143)) (s_L (s_aload_n dX9_whole_144 rfl)))))) (s_N (s_N (s_N (s_L (s_getf ok_7 (k := 0) (by decide) dX9_whole_145 qw_250)) (s_N (s_L (s_getf ok_5 (k := 2) (by decide) dX9_whole_148 qw_181)) (s_L (s_iret rfl dX9_whole_151)))) (s_N (s_L (s_aload_n dX9_whole_152 rfl)) (s_N (s_L (s_getf ok_7 (k := 0) (by decide) dX9_whole_153 qw_250)) (s_L (s_getf ok_5 (k := 5) (by decide) dX9_whole_156 qw_187))))) (s_N (s_N (s_L (s_getf ok_4 (k := 0) (by decide) dX9_whole_159 qw_87)) (s_N (s_L (s_iret rfl dX9_whole_162)) (s_L (s_aload_n dX9_whole_163 rfl)))) (s_N (s_L (s_getf ok_7 (k := 0) (by decide) dX9_whole_164 qw_250)) (s_N (s_L (s_getf ok_5 (k := 5) (by decide) dX9_whole_167 qw_187)) (s_L (s_getf ok_4 (k := 1) (by decide) dX9_whole_170 qw_90)))))))) (s_N (s_N (s_N (s_N (s_N (s_L (s_iret rfl dX9_whole_173)) (s_L (s_aload_n dX9_whole_174 rfl))) (s_N (s_L (s_getf ok_7 (k := 0) (by decide) dX9_whole_175 qw_250)) (s_N (s_L (s_getf ok_5 (k := 6) (by decide) dX9_whole_178 qw_189)) (s_L (s_getf ok_3 (k := 0) (by decide) dX9_whole_181 qw_127))))) (s_N (s_N (s_L (s_iret rfl dX9_whole_184)) (s_N (s_L (s_aload_n dX9_whole_185 rfl)) (s_L (s_getf ok_7 (k := 0) (by decide) dX9_whole_186 qw_250)))) (s_N (s_L (s_getf ok_5 (k := 7) (by decide) dX9_whole_189 qw_191)) (s_N (s_L (s_getf ok_6 (k := 0) (by decide) dX9_whole_192 qw_141)) (s_L (s_iret rfl dX9_whole_195)))))) (s_N (s_N (s_N (s_L (s_aload_n dX9_whole_196 rfl)) (s_N (s_L (s_getf ok_7 (k := 0) (by decide) dX9_whole_197 qw_250)) (s_L (s_getf ok_5 (k := 7) (by decide) dX9_whole_200 qw_191)))) (s_N (s_L (s_getf ok_6 (k := 1) (by decide) dX9_whole_203 qw_144)) (s_N (s_L (s_iret rfl dX9_whole_206)) (s_L (s_aload_n dX9_whole_207 rfl))))) (s_N (s_N (s_L (s_getf ok_7 (k := 0) (by decide) dX9_whole_208 qw_250)) (s_N (s_L (s_getf ok_5 (k := 7) (by decide) dX9_whole_211 qw_191)) (s_L (s_getf ok_6 (k := 2) (by decide) dX9_whole_214 qw_147)))) (s_N (s_L (s_iret rfl dX9_whole_217)) (s_N (s_L (s_aload_n dX9_whole_218 rfl)) (s_L (s_getf ok_7 (k := 0) (by decide) dX9_whole_219 qw_250))))))) (s_N (s_N (s_N (s_N (s_L (s_getf ok_5 (k := 7) (by decide) dX9_whole_222 qw_191)) (s_N (s_L (s_getf ok_6 (k := 3) (by decide) dX9_whole_225 qw_150)) (s_L (s_iret rfl dX9_whole_228)))) (s_N (s_L (s_aload_n dX9_whole_229 rfl)) (s_N (s_L (s_getf ok_7 (k := 0) (by decide) dX9_whole_230 qw_250)) (s_L (s_getf ok_5 (k := 7) (by decide) dX9_whole_233 qw_191))))) (s_N (s_N (s_L (s_getf ok_6 (k := 4) (by decide) dX9_whole_236 qw_153)) (s_N (s_L (s_iret rfl dX9_whole_239)) (s_L (s_aload_n dX9_whole_240 rfl)))) (s_N (s_L (s_getf ok_7 (k := 0) (by decide) dX9_whole_241 qw_250)) (s_N (s_L (s_getf ok_5 (k := 7) (by decide) dX9_whole_244 qw_191)) (s_L (s_getf ok_6 (k := 5) (by decide) dX9_whole_247 qw_157)))))) (s_N (s_N (s_N (s_L (s_iret rfl dX9_whole_250)) (s_N (s_L (s_aload_n dX9_whole_251 rfl)) (s_L (s_getf ok_7 (k := 0) (by decide) dX9_whole_252 qw_250)))) (s_N (s_L (s_getf ok_5 (k := 7) (by decide) dX9_whole_255 qw_191)) (s_N (s_L (s_getf ok_6 (k := 6) (by decide) dX9_whole_258 qw_160)) (s_L (s_iret rfl dX9_whole_261))))) (s_N (s_N (s_L (s_aload_n dX9_whole_262 rfl)) (s_N (s_L (s_getf ok_7 (k := 5) (by decide) dX9_whole_263 qw_255)) (s_L (s_getf ok_2 (k := 0) (by decide) dX9_whole_266 qw_218)))) (s_N (s_L (s_iret rfl dX9_whole_269)) (s_N (s_L (s_throw (thr_X9_whole_270) dX9_whole_270 dX9_whole_273 dX9_whole_274 dX9_whole_277)) (s_L (s_o_dup dX9_whole_273))))))))
/-! PlateArm.plateFits -/
theorem dX9_plateFits_0 : decode cX9_plateFits 0 = .ok (.iload_n 0, 1) := by decide +kernel
theorem dX9_plateFits_1 : decode cX9_plateFits 1 = .ok (.iconst 4, 1) := by decide +kernel
theorem dX9_plateFits_2 : decode cX9_plateFits 2 = .ok (.if_icmp .lt 24, 3) := by decide +kernel
theorem dX9_plateFits_5 : decode cX9_plateFits 5 = .ok (.iload_n 0, 1) := by decide +kernel
theorem dX9_plateFits_6 : decode cX9_plateFits 6 = .ok (.bipush 24, 2) := by decide +kernel
theorem dX9_plateFits_8 : decode cX9_plateFits 8 = .ok (.if_icmp .gt 18, 3) := by decide +kernel
theorem dX9_plateFits_11 : decode cX9_plateFits 11 = .ok (.iload_n 1, 1) := by decide +kernel
theorem dX9_plateFits_12 : decode cX9_plateFits 12 = .ok (.iconst 3, 1) := by decide +kernel
theorem dX9_plateFits_13 : decode cX9_plateFits 13 = .ok (.if_icmp .lt 13, 3) := by decide +kernel
theorem dX9_plateFits_16 : decode cX9_plateFits 16 = .ok (.iload_n 1, 1) := by decide +kernel
theorem dX9_plateFits_17 : decode cX9_plateFits 17 = .ok (.bipush 12, 2) := by decide +kernel
theorem dX9_plateFits_19 : decode cX9_plateFits 19 = .ok (.if_icmp .gt 7, 3) := by decide +kernel
theorem dX9_plateFits_22 : decode cX9_plateFits 22 = .ok (.iconst 1, 1) := by decide +kernel
theorem dX9_plateFits_23 : decode cX9_plateFits 23 = .ok (.goto 4, 3) := by decide +kernel
theorem dX9_plateFits_26 : decode cX9_plateFits 26 = .ok (.iconst 0, 1) := by decide +kernel
theorem dX9_plateFits_27 : decode cX9_plateFits 27 = .ok (.ireturn, 1) := by decide +kernel
def kX9_plateFits : Nat → WOp := cN 12 (cN 5 (cN 1 (cN 0 (cL 0 (o_iload 1 0)) (cL 1 (o_push 2 4))) (cN 2 (cL 2 (o_icmp_lt 26 5)) (cL 5 (o_iload 6 0)))) (cN 8 (cN 6 (cL 6 (o_push 8 24)) (cL 8 (o_icmp_gt 26 11))) (cN 11 (cL 11 (o_iload 12 1)) (cL 12 (o_push 13 3))))) (cN 19 (cN 16 (cN 13 (cL 13 (o_icmp_lt 26 16)) (cL 16 (o_iload 17 1))) (cN 17 (cL 17 (o_push 19 12)) (cL 19 (o_icmp_gt 26 22)))) (cN 23 (cN 22 (cL 22 (o_push 23 1)) (cL 23 (o_goto 27))) (cN 26 (cL 26 (o_push 27 0)) (cL 27 (o_zret)))))
theorem sX9_plateFits : ∀ pc, Snd tX9_plateFits G1 pc (kX9_plateFits pc) := s_N (s_N (s_N (s_N (s_L (s_iload_n dX9_plateFits_0 rfl)) (s_L (s_iconst dX9_plateFits_1 (by decide +kernel)))) (s_N (s_L (s_o_icmp_lt dX9_plateFits_2 (by decide))) (s_L (s_iload_n dX9_plateFits_5 rfl)))) (s_N (s_N (s_L (s_bipush dX9_plateFits_6 (by decide +kernel))) (s_L (s_o_icmp_gt dX9_plateFits_8 (by decide)))) (s_N (s_L (s_iload_n dX9_plateFits_11 rfl)) (s_L (s_iconst dX9_plateFits_12 (by decide +kernel)))))) (s_N (s_N (s_N (s_L (s_o_icmp_lt dX9_plateFits_13 (by decide))) (s_L (s_iload_n dX9_plateFits_16 rfl))) (s_N (s_L (s_bipush dX9_plateFits_17 (by decide +kernel))) (s_L (s_o_icmp_gt dX9_plateFits_19 (by decide))))) (s_N (s_N (s_L (s_iconst dX9_plateFits_22 (by decide +kernel))) (s_L (s_o_goto dX9_plateFits_23 (by decide)))) (s_N (s_L (s_iconst dX9_plateFits_26 (by decide +kernel))) (s_L (s_zret rfl dX9_plateFits_27)))))
/-! PlateArm.requestFits -/
theorem dX9_requestFits_0 : decode cX9_requestFits 0 = .ok (.iload_n 1, 1) := by decide +kernel
theorem dX9_requestFits_1 : decode cX9_requestFits 1 = .ok (.ifCond .lt 44, 3) := by decide +kernel
theorem dX9_requestFits_4 : decode cX9_requestFits 4 = .ok (.iload_n 1, 1) := by decide +kernel
theorem dX9_requestFits_5 : decode cX9_requestFits 5 = .ok (.aload_n 0, 1) := by decide +kernel
theorem dX9_requestFits_6 : decode cX9_requestFits 6 = .ok (.getfield 10, 3) := by decide +kernel
theorem dX9_requestFits_9 : decode cX9_requestFits 9 = .ok (.getfield 170, 3) := by decide +kernel
theorem dX9_requestFits_12 : decode cX9_requestFits 12 = .ok (.if_icmp .ge 33, 3) := by decide +kernel
theorem dX9_requestFits_15 : decode cX9_requestFits 15 = .ok (.iload_n 2, 1) := by decide +kernel
theorem dX9_requestFits_16 : decode cX9_requestFits 16 = .ok (.ifCond .lt 29, 3) := by decide +kernel
theorem dX9_requestFits_19 : decode cX9_requestFits 19 = .ok (.iload_n 2, 1) := by decide +kernel
theorem dX9_requestFits_20 : decode cX9_requestFits 20 = .ok (.aload_n 0, 1) := by decide +kernel
theorem dX9_requestFits_21 : decode cX9_requestFits 21 = .ok (.getfield 10, 3) := by decide +kernel
theorem dX9_requestFits_24 : decode cX9_requestFits 24 = .ok (.getfield 173, 3) := by decide +kernel
theorem dX9_requestFits_27 : decode cX9_requestFits 27 = .ok (.if_icmp .ge 18, 3) := by decide +kernel
theorem dX9_requestFits_30 : decode cX9_requestFits 30 = .ok (.iload_n 3, 1) := by decide +kernel
theorem dX9_requestFits_31 : decode cX9_requestFits 31 = .ok (.ifCond .lt 14, 3) := by decide +kernel
theorem dX9_requestFits_34 : decode cX9_requestFits 34 = .ok (.iload_n 3, 1) := by decide +kernel
theorem dX9_requestFits_35 : decode cX9_requestFits 35 = .ok (.sipush 9999, 3) := by decide +kernel
theorem dX9_requestFits_38 : decode cX9_requestFits 38 = .ok (.if_icmp .gt 7, 3) := by decide +kernel
theorem dX9_requestFits_41 : decode cX9_requestFits 41 = .ok (.iconst 1, 1) := by decide +kernel
theorem dX9_requestFits_42 : decode cX9_requestFits 42 = .ok (.goto 4, 3) := by decide +kernel
theorem dX9_requestFits_45 : decode cX9_requestFits 45 = .ok (.iconst 0, 1) := by decide +kernel
theorem dX9_requestFits_46 : decode cX9_requestFits 46 = .ok (.ireturn, 1) := by decide +kernel
def kX9_requestFits : Nat → WOp := cN 20 (cN 6 (cN 1 (cN 0 (cL 0 (o_iload 1 1)) (cL 1 (o_if_lt 45 4))) (cN 4 (cL 4 (o_iload 5 1)) (cN 5 (cL 5 (o_aload 6 0)) (cL 6 (o_getf 9 7 0))))) (cN 15 (cN 9 (cL 9 (o_getf 12 5 0)) (cN 12 (cL 12 (o_icmp_ge 45 15)) (cL 15 (o_iload 16 2)))) (cN 16 (cL 16 (o_if_lt 45 19)) (cN 19 (cL 19 (o_iload 20 2)) (cL 20 (o_aload 21 0)))))) (cN 34 (cN 27 (cN 21 (cL 21 (o_getf 24 7 0)) (cN 24 (cL 24 (o_getf 27 5 1)) (cL 27 (o_icmp_ge 45 30)))) (cN 30 (cL 30 (o_iload 31 3)) (cN 31 (cL 31 (o_if_lt 45 34)) (cL 34 (o_iload 35 3))))) (cN 41 (cN 35 (cL 35 (o_push 38 9999)) (cN 38 (cL 38 (o_icmp_gt 45 41)) (cL 41 (o_push 42 1)))) (cN 42 (cL 42 (o_goto 46)) (cN 45 (cL 45 (o_push 46 0)) (cL 46 (o_zret))))))
theorem sX9_requestFits : ∀ pc, Snd tX9_requestFits G1 pc (kX9_requestFits pc) := s_N (s_N (s_N (s_N (s_L (s_iload_n dX9_requestFits_0 rfl)) (s_L (s_o_if_lt dX9_requestFits_1 (by decide)))) (s_N (s_L (s_iload_n dX9_requestFits_4 rfl)) (s_N (s_L (s_aload_n dX9_requestFits_5 rfl)) (s_L (s_getf ok_7 (k := 0) (by decide) dX9_requestFits_6 qw_250))))) (s_N (s_N (s_L (s_getf ok_5 (k := 0) (by decide) dX9_requestFits_9 qw_177)) (s_N (s_L (s_o_icmp_ge dX9_requestFits_12 (by decide))) (s_L (s_iload_n dX9_requestFits_15 rfl)))) (s_N (s_L (s_o_if_lt dX9_requestFits_16 (by decide))) (s_N (s_L (s_iload_n dX9_requestFits_19 rfl)) (s_L (s_aload_n dX9_requestFits_20 rfl)))))) (s_N (s_N (s_N (s_L (s_getf ok_7 (k := 0) (by decide) dX9_requestFits_21 qw_250)) (s_N (s_L (s_getf ok_5 (k := 1) (by decide) dX9_requestFits_24 qw_179)) (s_L (s_o_icmp_ge dX9_requestFits_27 (by decide))))) (s_N (s_L (s_iload_n dX9_requestFits_30 rfl)) (s_N (s_L (s_o_if_lt dX9_requestFits_31 (by decide))) (s_L (s_iload_n dX9_requestFits_34 rfl))))) (s_N (s_N (s_L (s_sipush dX9_requestFits_35 (by decide +kernel))) (s_N (s_L (s_o_icmp_gt dX9_requestFits_38 (by decide))) (s_L (s_iconst dX9_requestFits_41 (by decide +kernel))))) (s_N (s_L (s_o_goto dX9_requestFits_42 (by decide))) (s_N (s_L (s_iconst dX9_requestFits_45 (by decide +kernel))) (s_L (s_zret rfl dX9_requestFits_46))))))
/-! PlateArm.settingFits -/
theorem dX9_settingFits_0 : decode cX9_settingFits 0 = .ok (.iload_n 0, 1) := by decide +kernel
theorem dX9_settingFits_1 : decode cX9_settingFits 1 = .ok (.ifCond .lt 30, 3) := by decide +kernel
theorem dX9_settingFits_4 : decode cX9_settingFits 4 = .ok (.iload_n 0, 1) := by decide +kernel
theorem dX9_settingFits_5 : decode cX9_settingFits 5 = .ok (.iconst 4, 1) := by decide +kernel
theorem dX9_settingFits_6 : decode cX9_settingFits 6 = .ok (.if_icmp .ge 25, 3) := by decide +kernel
theorem dX9_settingFits_9 : decode cX9_settingFits 9 = .ok (.iload_n 1, 1) := by decide +kernel
theorem dX9_settingFits_10 : decode cX9_settingFits 10 = .ok (.getstatic 291, 3) := by decide +kernel
theorem dX9_settingFits_13 : decode cX9_settingFits 13 = .ok (.iload_n 0, 1) := by decide +kernel
theorem dX9_settingFits_14 : decode cX9_settingFits 14 = .ok (.iaload, 1) := by decide +kernel
theorem dX9_settingFits_15 : decode cX9_settingFits 15 = .ok (.if_icmp .lt 16, 3) := by decide +kernel
theorem dX9_settingFits_18 : decode cX9_settingFits 18 = .ok (.iload_n 1, 1) := by decide +kernel
theorem dX9_settingFits_19 : decode cX9_settingFits 19 = .ok (.getstatic 294, 3) := by decide +kernel
theorem dX9_settingFits_22 : decode cX9_settingFits 22 = .ok (.iload_n 0, 1) := by decide +kernel
theorem dX9_settingFits_23 : decode cX9_settingFits 23 = .ok (.iaload, 1) := by decide +kernel
theorem dX9_settingFits_24 : decode cX9_settingFits 24 = .ok (.if_icmp .gt 7, 3) := by decide +kernel
theorem dX9_settingFits_27 : decode cX9_settingFits 27 = .ok (.iconst 1, 1) := by decide +kernel
theorem dX9_settingFits_28 : decode cX9_settingFits 28 = .ok (.goto 4, 3) := by decide +kernel
theorem dX9_settingFits_31 : decode cX9_settingFits 31 = .ok (.iconst 0, 1) := by decide +kernel
theorem dX9_settingFits_32 : decode cX9_settingFits 32 = .ok (.ireturn, 1) := by decide +kernel
def kX9_settingFits : Nat → WOp := cN 14 (cN 5 (cN 1 (cN 0 (cL 0 (o_iload 1 0)) (cL 1 (o_if_lt 31 4))) (cN 4 (cL 4 (o_iload 5 0)) (cL 5 (o_push 6 4)))) (cN 9 (cN 6 (cL 6 (o_icmp_ge 31 9)) (cL 9 (o_iload 10 1))) (cN 10 (cL 10 (o_gets 13 (.float 18))) (cN 13 (cL 13 (o_iload 14 0)) (cL 14 (o_xald 15 18 [0, 0, 5, 0])))))) (cN 23 (cN 18 (cN 15 (cL 15 (o_icmp_lt 31 18)) (cL 18 (o_iload 19 1))) (cN 19 (cL 19 (o_gets 22 (.float 19))) (cN 22 (cL 22 (o_iload 23 0)) (cL 23 (o_xald 24 19 [3, 20, 200, 100]))))) (cN 27 (cN 24 (cL 24 (o_icmp_gt 31 27)) (cL 27 (o_push 28 1))) (cN 28 (cL 28 (o_goto 32)) (cN 31 (cL 31 (o_push 32 0)) (cL 32 (o_zret))))))
theorem sX9_settingFits : ∀ pc, Snd tX9_settingFits G1 pc (kX9_settingFits pc) := s_N (s_N (s_N (s_N (s_L (s_iload_n dX9_settingFits_0 rfl)) (s_L (s_o_if_lt dX9_settingFits_1 (by decide)))) (s_N (s_L (s_iload_n dX9_settingFits_4 rfl)) (s_L (s_iconst dX9_settingFits_5 (by decide +kernel))))) (s_N (s_N (s_L (s_o_icmp_ge dX9_settingFits_6 (by decide))) (s_L (s_iload_n dX9_settingFits_9 rfl))) (s_N (s_L (s_gets (C := "PlateArm") (nm := "LOWEST_SETTING") (dsc := "[I") (by simp [EZ]) dX9_settingFits_10 qw_501)) (s_N (s_L (s_iload_n dX9_settingFits_13 rfl)) (s_L (s_xald (k := 18) (l := [0, 0, 5, 0]) (by simp [ET]) dX9_settingFits_14)))))) (s_N (s_N (s_N (s_L (s_o_icmp_lt dX9_settingFits_15 (by decide))) (s_L (s_iload_n dX9_settingFits_18 rfl))) (s_N (s_L (s_gets (C := "PlateArm") (nm := "HIGHEST_SETTING") (dsc := "[I") (by simp [EZ]) dX9_settingFits_19 qw_503)) (s_N (s_L (s_iload_n dX9_settingFits_22 rfl)) (s_L (s_xald (k := 19) (l := [3, 20, 200, 100]) (by simp [ET]) dX9_settingFits_23))))) (s_N (s_N (s_L (s_o_icmp_gt dX9_settingFits_24 (by decide))) (s_L (s_iconst dX9_settingFits_27 (by decide +kernel)))) (s_N (s_L (s_o_goto dX9_settingFits_28 (by decide))) (s_N (s_L (s_iconst dX9_settingFits_31 (by decide +kernel))) (s_L (s_zret rfl dX9_settingFits_32))))))
/-! PlateArm.ticksFit -/
theorem dX9_ticksFit_0 : decode cX9_ticksFit 0 = .ok (.iload_n 0, 1) := by decide +kernel
theorem dX9_ticksFit_1 : decode cX9_ticksFit 1 = .ok (.iconst 1, 1) := by decide +kernel
theorem dX9_ticksFit_2 : decode cX9_ticksFit 2 = .ok (.if_icmp .lt 13, 3) := by decide +kernel
theorem dX9_ticksFit_5 : decode cX9_ticksFit 5 = .ok (.iload_n 0, 1) := by decide +kernel
theorem dX9_ticksFit_6 : decode cX9_ticksFit 6 = .ok (.bipush 99, 2) := by decide +kernel
theorem dX9_ticksFit_8 : decode cX9_ticksFit 8 = .ok (.if_icmp .gt 7, 3) := by decide +kernel
theorem dX9_ticksFit_11 : decode cX9_ticksFit 11 = .ok (.iconst 1, 1) := by decide +kernel
theorem dX9_ticksFit_12 : decode cX9_ticksFit 12 = .ok (.goto 4, 3) := by decide +kernel
theorem dX9_ticksFit_15 : decode cX9_ticksFit 15 = .ok (.iconst 0, 1) := by decide +kernel
theorem dX9_ticksFit_16 : decode cX9_ticksFit 16 = .ok (.ireturn, 1) := by decide +kernel
def kX9_ticksFit : Nat → WOp := cN 6 (cN 1 (cN 0 (cL 0 (o_iload 1 0)) (cL 1 (o_push 2 1))) (cN 2 (cL 2 (o_icmp_lt 15 5)) (cN 5 (cL 5 (o_iload 6 0)) (cL 6 (o_push 8 99))))) (cN 11 (cN 8 (cL 8 (o_icmp_gt 15 11)) (cL 11 (o_push 12 1))) (cN 12 (cL 12 (o_goto 16)) (cN 15 (cL 15 (o_push 16 0)) (cL 16 (o_zret)))))
theorem sX9_ticksFit : ∀ pc, Snd tX9_ticksFit G1 pc (kX9_ticksFit pc) := s_N (s_N (s_N (s_L (s_iload_n dX9_ticksFit_0 rfl)) (s_L (s_iconst dX9_ticksFit_1 (by decide +kernel)))) (s_N (s_L (s_o_icmp_lt dX9_ticksFit_2 (by decide))) (s_N (s_L (s_iload_n dX9_ticksFit_5 rfl)) (s_L (s_bipush dX9_ticksFit_6 (by decide +kernel)))))) (s_N (s_N (s_L (s_o_icmp_gt dX9_ticksFit_8 (by decide))) (s_L (s_iconst dX9_ticksFit_11 (by decide +kernel)))) (s_N (s_L (s_o_goto dX9_ticksFit_12 (by decide))) (s_N (s_L (s_iconst dX9_ticksFit_15 (by decide +kernel))) (s_L (s_zret rfl dX9_ticksFit_16)))))
/-! PlateArm.timeIsLeft -/
theorem dX9_timeIsLeft_0 : decode cX9_timeIsLeft 0 = .ok (.aload_n 0, 1) := by decide +kernel
theorem dX9_timeIsLeft_1 : decode cX9_timeIsLeft 1 = .ok (.getfield 10, 3) := by decide +kernel
theorem dX9_timeIsLeft_4 : decode cX9_timeIsLeft 4 = .ok (.getfield 77, 3) := by decide +kernel
theorem dX9_timeIsLeft_7 : decode cX9_timeIsLeft 7 = .ok (.iload_n 1, 1) := by decide +kernel
theorem dX9_timeIsLeft_8 : decode cX9_timeIsLeft 8 = .ok (.iadd, 1) := by decide +kernel
theorem dX9_timeIsLeft_9 : decode cX9_timeIsLeft 9 = .ok (.sipush 9999, 3) := by decide +kernel
theorem dX9_timeIsLeft_12 : decode cX9_timeIsLeft 12 = .ok (.if_icmp .gt 7, 3) := by decide +kernel
theorem dX9_timeIsLeft_15 : decode cX9_timeIsLeft 15 = .ok (.iconst 1, 1) := by decide +kernel
theorem dX9_timeIsLeft_16 : decode cX9_timeIsLeft 16 = .ok (.goto 4, 3) := by decide +kernel
theorem dX9_timeIsLeft_19 : decode cX9_timeIsLeft 19 = .ok (.iconst 0, 1) := by decide +kernel
theorem dX9_timeIsLeft_20 : decode cX9_timeIsLeft 20 = .ok (.ireturn, 1) := by decide +kernel
def kX9_timeIsLeft : Nat → WOp := cN 8 (cN 1 (cN 0 (cL 0 (o_aload 1 0)) (cL 1 (o_getf 4 7 0))) (cN 4 (cL 4 (o_getf 7 5 2)) (cN 7 (cL 7 (o_iload 8 1)) (cL 8 (o_iadd 9))))) (cN 15 (cN 9 (cL 9 (o_push 12 9999)) (cN 12 (cL 12 (o_icmp_gt 19 15)) (cL 15 (o_push 16 1)))) (cN 16 (cL 16 (o_goto 20)) (cN 19 (cL 19 (o_push 20 0)) (cL 20 (o_zret)))))
theorem sX9_timeIsLeft : ∀ pc, Snd tX9_timeIsLeft G1 pc (kX9_timeIsLeft pc) := s_N (s_N (s_N (s_L (s_aload_n dX9_timeIsLeft_0 rfl)) (s_L (s_getf ok_7 (k := 0) (by decide) dX9_timeIsLeft_1 qw_250))) (s_N (s_L (s_getf ok_5 (k := 2) (by decide) dX9_timeIsLeft_4 qw_181)) (s_N (s_L (s_iload_n dX9_timeIsLeft_7 rfl)) (s_L (s_o_iadd dX9_timeIsLeft_8))))) (s_N (s_N (s_L (s_sipush dX9_timeIsLeft_9 (by decide +kernel))) (s_N (s_L (s_o_icmp_gt dX9_timeIsLeft_12 (by decide))) (s_L (s_iconst dX9_timeIsLeft_15 (by decide +kernel))))) (s_N (s_L (s_o_goto dX9_timeIsLeft_16 (by decide))) (s_N (s_L (s_iconst dX9_timeIsLeft_19 (by decide +kernel))) (s_L (s_zret rfl dX9_timeIsLeft_20)))))
/-! PlateArm.requestValue -/
theorem dX9_requestValue_0 : decode cX9_requestValue 0 = .ok (.aload_n 0, 1) := by decide +kernel
theorem dX9_requestValue_1 : decode cX9_requestValue 1 = .ok (.getfield 10, 3) := by decide +kernel
theorem dX9_requestValue_4 : decode cX9_requestValue 4 = .ok (.getfield 52, 3) := by decide +kernel
theorem dX9_requestValue_7 : decode cX9_requestValue 7 = .ok (.astore_n 3, 1) := by decide +kernel
theorem dX9_requestValue_8 : decode cX9_requestValue 8 = .ok (.iload_n 2, 1) := by decide +kernel
theorem dX9_requestValue_9 : decode cX9_requestValue 9 = .ok (.tableswitch 84 0 4 #[35, 42, 49, 56, 63], 35) := by decide +kernel
theorem dX9_requestValue_44 : decode cX9_requestValue 44 = .ok (.aload_n 3, 1) := by decide +kernel
theorem dX9_requestValue_45 : decode cX9_requestValue 45 = .ok (.getfield 297, 3) := by decide +kernel
theorem dX9_requestValue_48 : decode cX9_requestValue 48 = .ok (.iload_n 1, 1) := by decide +kernel
theorem dX9_requestValue_49 : decode cX9_requestValue 49 = .ok (.iaload, 1) := by decide +kernel
theorem dX9_requestValue_50 : decode cX9_requestValue 50 = .ok (.ireturn, 1) := by decide +kernel
theorem dX9_requestValue_51 : decode cX9_requestValue 51 = .ok (.aload_n 3, 1) := by decide +kernel
theorem dX9_requestValue_52 : decode cX9_requestValue 52 = .ok (.getfield 299, 3) := by decide +kernel
theorem dX9_requestValue_55 : decode cX9_requestValue 55 = .ok (.iload_n 1, 1) := by decide +kernel
theorem dX9_requestValue_56 : decode cX9_requestValue 56 = .ok (.iaload, 1) := by decide +kernel
theorem dX9_requestValue_57 : decode cX9_requestValue 57 = .ok (.ireturn, 1) := by decide +kernel
theorem dX9_requestValue_58 : decode cX9_requestValue 58 = .ok (.aload_n 3, 1) := by decide +kernel
theorem dX9_requestValue_59 : decode cX9_requestValue 59 = .ok (.getfield 301, 3) := by decide +kernel
theorem dX9_requestValue_62 : decode cX9_requestValue 62 = .ok (.iload_n 1, 1) := by decide +kernel
theorem dX9_requestValue_63 : decode cX9_requestValue 63 = .ok (.iaload, 1) := by decide +kernel
theorem dX9_requestValue_64 : decode cX9_requestValue 64 = .ok (.ireturn, 1) := by decide +kernel
theorem dX9_requestValue_65 : decode cX9_requestValue 65 = .ok (.aload_n 3, 1) := by decide +kernel
theorem dX9_requestValue_66 : decode cX9_requestValue 66 = .ok (.getfield 91, 3) := by decide +kernel
theorem dX9_requestValue_69 : decode cX9_requestValue 69 = .ok (.iload_n 1, 1) := by decide +kernel
theorem dX9_requestValue_70 : decode cX9_requestValue 70 = .ok (.iaload, 1) := by decide +kernel
theorem dX9_requestValue_71 : decode cX9_requestValue 71 = .ok (.ireturn, 1) := by decide +kernel
theorem dX9_requestValue_72 : decode cX9_requestValue 72 = .ok (.aload_n 3, 1) := by decide +kernel
theorem dX9_requestValue_73 : decode cX9_requestValue 73 = .ok (.getfield 297, 3) := by decide +kernel
theorem dX9_requestValue_76 : decode cX9_requestValue 76 = .ok (.iload_n 1, 1) := by decide +kernel
theorem dX9_requestValue_77 : decode cX9_requestValue 77 = .ok (.iaload, 1) := by decide +kernel
theorem dX9_requestValue_78 : decode cX9_requestValue 78 = .ok (.aload_n 0, 1) := by decide +kernel
theorem dX9_requestValue_79 : decode cX9_requestValue 79 = .ok (.getfield 10, 3) := by decide +kernel
theorem dX9_requestValue_82 : decode cX9_requestValue 82 = .ok (.getfield 145, 3) := by decide +kernel
theorem dX9_requestValue_85 : decode cX9_requestValue 85 = .ok (.getfield 149, 3) := by decide +kernel
theorem dX9_requestValue_88 : decode cX9_requestValue 88 = .ok (.isub, 1) := by decide +kernel
theorem dX9_requestValue_89 : decode cX9_requestValue 89 = .ok (.invokestatic 304, 3) := by decide +kernel
theorem dX9_requestValue_92 : decode cX9_requestValue 92 = .ok (.ireturn, 1) := by decide +kernel
theorem dX9_requestValue_93 : decode cX9_requestValue 93 = .ok (.aload_n 0, 1) := by decide +kernel
theorem dX9_requestValue_94 : decode cX9_requestValue 94 = .ok (.getfield 10, 3) := by decide +kernel
theorem dX9_requestValue_97 : decode cX9_requestValue 97 = .ok (.getfield 77, 3) := by decide +kernel
theorem dX9_requestValue_100 : decode cX9_requestValue 100 = .ok (.aload_n 3, 1) := by decide +kernel
theorem dX9_requestValue_101 : decode cX9_requestValue 101 = .ok (.getfield 301, 3) := by decide +kernel
theorem dX9_requestValue_104 : decode cX9_requestValue 104 = .ok (.iload_n 1, 1) := by decide +kernel
theorem dX9_requestValue_105 : decode cX9_requestValue 105 = .ok (.iaload, 1) := by decide +kernel
theorem dX9_requestValue_106 : decode cX9_requestValue 106 = .ok (.if_icmp .le 7, 3) := by decide +kernel
theorem dX9_requestValue_109 : decode cX9_requestValue 109 = .ok (.iconst 1, 1) := by decide +kernel
theorem dX9_requestValue_110 : decode cX9_requestValue 110 = .ok (.goto 4, 3) := by decide +kernel
theorem dX9_requestValue_113 : decode cX9_requestValue 113 = .ok (.iconst 0, 1) := by decide +kernel
theorem dX9_requestValue_114 : decode cX9_requestValue 114 = .ok (.ireturn, 1) := by decide +kernel
def kX9_requestValue : Nat → WOp := cN 69 (cN 51 (cN 9 (cN 4 (cN 0 (cL 0 (o_aload 1 0)) (cN 1 (cL 1 (o_getf 4 7 0)) (cL 4 (o_getf 7 5 5)))) (cN 7 (cL 7 (o_astore 8 3)) (cN 8 (cL 8 (o_iload 9 2)) (cL 9 (o_tsw 0 [44, 51, 58, 65, 72] 93))))) (cN 48 (cN 44 (cL 44 (o_aload 45 3)) (cN 45 (cL 45 (o_getf 48 4 3)) (cL 48 (o_iload 49 1)))) (cN 49 (cL 49 (o_iald 50)) (cN 50 (cL 50 (o_iret)) (cL 51 (o_aload 52 3)))))) (cN 59 (cN 56 (cN 52 (cL 52 (o_getf 55 4 4)) (cN 55 (cL 55 (o_iload 56 1)) (cL 56 (o_iald 57)))) (cN 57 (cL 57 (o_iret)) (cN 58 (cL 58 (o_aload 59 3)) (cL 59 (o_getf 62 4 5))))) (cN 64 (cN 62 (cL 62 (o_iload 63 1)) (cN 63 (cL 63 (o_iald 64)) (cL 64 (o_iret)))) (cN 65 (cL 65 (o_aload 66 3)) (cN 66 (cL 66 (o_getf 69 4 6)) (cL 69 (o_iload 70 1))))))) (cN 89 (cN 77 (cN 72 (cN 70 (cL 70 (o_iald 71)) (cN 71 (cL 71 (o_iret)) (cL 72 (o_aload 73 3)))) (cN 73 (cL 73 (o_getf 76 4 3)) (cN 76 (cL 76 (o_iload 77 1)) (cL 77 (o_iald 78))))) (cN 82 (cN 78 (cL 78 (o_aload 79 0)) (cN 79 (cL 79 (o_getf 82 7 0)) (cL 82 (o_getf 85 5 4)))) (cN 85 (cL 85 (o_getf 88 0 0)) (cN 88 (cL 88 (o_isub 89)) (cL 89 (o_mabs 92)))))) (cN 101 (cN 94 (cN 92 (cL 92 (o_iret)) (cN 93 (cL 93 (o_aload 94 0)) (cL 94 (o_getf 97 7 0)))) (cN 97 (cL 97 (o_getf 100 5 2)) (cN 100 (cL 100 (o_aload 101 3)) (cL 101 (o_getf 104 4 5))))) (cN 106 (cN 104 (cL 104 (o_iload 105 1)) (cN 105 (cL 105 (o_iald 106)) (cL 106 (o_icmp_le 113 109)))) (cN 110 (cN 109 (cL 109 (o_push 110 1)) (cL 110 (o_goto 114))) (cN 113 (cL 113 (o_push 114 0)) (cL 114 (o_iret)))))))
theorem sX9_requestValue : ∀ pc, Snd tX9_requestValue G1 pc (kX9_requestValue pc) := s_N (s_N (s_N (s_N (s_N (s_L (s_aload_n dX9_requestValue_0 rfl)) (s_N (s_L (s_getf ok_7 (k := 0) (by decide) dX9_requestValue_1 qw_250)) (s_L (s_getf ok_5 (k := 5) (by decide) dX9_requestValue_4 qw_187)))) (s_N (s_L (s_astore_n dX9_requestValue_7 rfl (by decide))) (s_N (s_L (s_iload_n dX9_requestValue_8 rfl)) (s_L (s_tsw dX9_requestValue_9 (by decide +kernel) (by decide) (by decide) (by decide) (by intro k t h; match k, h with | 0, h => exact ⟨35, rfl, by cases h; decide⟩ | 1, h => exact ⟨42, rfl, by cases h; decide⟩ | 2, h => exact ⟨49, rfl, by cases h; decide⟩ | 3, h => exact ⟨56, rfl, by cases h; decide⟩ | 4, h => exact ⟨63, rfl, by cases h; decide⟩ | k + 5, h => simp at h) (by decide)))))) (s_N (s_N (s_L (s_aload_n dX9_requestValue_44 rfl)) (s_N (s_L (s_getf ok_4 (k := 3) (by decide) dX9_requestValue_45 qw_96)) (s_L (s_iload_n dX9_requestValue_48 rfl)))) (s_N (s_L (s_iald dX9_requestValue_49)) (s_N (s_L (s_iret rfl dX9_requestValue_50)) (s_L (s_aload_n dX9_requestValue_51 rfl)))))) (s_N (s_N (s_N (s_L (s_getf ok_4 (k := 4) (by decide) dX9_requestValue_52 qw_99)) (s_N (s_L (s_iload_n dX9_requestValue_55 rfl)) (s_L (s_iald dX9_requestValue_56)))) (s_N (s_L (s_iret rfl dX9_requestValue_57)) (s_N (s_L (s_aload_n dX9_requestValue_58 rfl)) (s_L (s_getf ok_4 (k := 5) (by decide) dX9_requestValue_59 qw_102))))) (s_N (s_N (s_L (s_iload_n dX9_requestValue_62 rfl)) (s_N (s_L (s_iald dX9_requestValue_63)) (s_L (s_iret rfl dX9_requestValue_64)))) (s_N (s_L (s_aload_n dX9_requestValue_65 rfl)) (s_N (s_L (s_getf ok_4 (k := 6) (by decide) dX9_requestValue_66 qw_104)) (s_L (s_iload_n dX9_requestValue_69 rfl))))))) (s_N (s_N (s_N (s_N (s_L (s_iald dX9_requestValue_70)) (s_N (s_L (s_iret rfl dX9_requestValue_71)) (s_L (s_aload_n dX9_requestValue_72 rfl)))) (s_N (s_L (s_getf ok_4 (k := 3) (by decide) dX9_requestValue_73 qw_96)) (s_N (s_L (s_iload_n dX9_requestValue_76 rfl)) (s_L (s_iald dX9_requestValue_77))))) (s_N (s_N (s_L (s_aload_n dX9_requestValue_78 rfl)) (s_N (s_L (s_getf ok_7 (k := 0) (by decide) dX9_requestValue_79 qw_250)) (s_L (s_getf ok_5 (k := 4) (by decide) dX9_requestValue_82 qw_185)))) (s_N (s_L (s_getf ok_0 (k := 0) (by decide) dX9_requestValue_85 qw_55)) (s_N (s_L (s_o_isub dX9_requestValue_88)) (s_L (s_mabs qw_620 qw_529 qw_30 qw_530 (by decide) (by decide) dX9_requestValue_89)))))) (s_N (s_N (s_N (s_L (s_iret rfl dX9_requestValue_92)) (s_N (s_L (s_aload_n dX9_requestValue_93 rfl)) (s_L (s_getf ok_7 (k := 0) (by decide) dX9_requestValue_94 qw_250)))) (s_N (s_L (s_getf ok_5 (k := 2) (by decide) dX9_requestValue_97 qw_181)) (s_N (s_L (s_aload_n dX9_requestValue_100 rfl)) (s_L (s_getf ok_4 (k := 5) (by decide) dX9_requestValue_101 qw_102))))) (s_N (s_N (s_L (s_iload_n dX9_requestValue_104 rfl)) (s_N (s_L (s_iald dX9_requestValue_105)) (s_L (s_o_icmp_le dX9_requestValue_106 (by decide))))) (s_N (s_N (s_L (s_iconst dX9_requestValue_109 (by decide +kernel))) (s_L (s_o_goto dX9_requestValue_110 (by decide)))) (s_N (s_L (s_iconst dX9_requestValue_113 (by decide +kernel))) (s_L (s_iret rfl dX9_requestValue_114)))))))
/-! PlateArm.save -/
theorem dX9_save_0 : decode cX9_save 0 = .ok (.aload_n 0, 1) := by decide +kernel
theorem dX9_save_1 : decode cX9_save 1 = .ok (.getfield 260, 3) := by decide +kernel
theorem dX9_save_4 : decode cX9_save 4 = .ok (.iconst 4, 1) := by decide +kernel
theorem dX9_save_5 : decode cX9_save 5 = .ok (.if_icmp .lt 7, 3) := by decide +kernel
theorem dX9_save_8 : decode cX9_save 8 = .ok (.aload_n 0, 1) := by decide +kernel
theorem dX9_save_9 : decode cX9_save 9 = .ok (.invokevirtual 314, 3) := by decide +kernel
theorem dX9_save_12 : decode cX9_save 12 = .ok (.aload_n 0, 1) := by decide +kernel
theorem dX9_save_13 : decode cX9_save 13 = .ok (.getfield 19, 3) := by decide +kernel
theorem dX9_save_16 : decode cX9_save 16 = .ok (.aload_n 0, 1) := by decide +kernel
theorem dX9_save_17 : decode cX9_save 17 = .ok (.getfield 260, 3) := by decide +kernel
theorem dX9_save_20 : decode cX9_save 20 = .ok (.aaload, 1) := by decide +kernel
theorem dX9_save_21 : decode cX9_save 21 = .ok (.aload_n 0, 1) := by decide +kernel
theorem dX9_save_22 : decode cX9_save 22 = .ok (.getfield 10, 3) := by decide +kernel
theorem dX9_save_25 : decode cX9_save 25 = .ok (.invokevirtual 124, 3) := by decide +kernel
theorem dX9_save_28 : decode cX9_save 28 = .ok (.aload_n 0, 1) := by decide +kernel
theorem dX9_save_29 : decode cX9_save 29 = .ok (.dup, 1) := by decide +kernel
theorem dX9_save_30 : decode cX9_save 30 = .ok (.getfield 260, 3) := by decide +kernel
theorem dX9_save_33 : decode cX9_save 33 = .ok (.iconst 1, 1) := by decide +kernel
theorem dX9_save_34 : decode cX9_save 34 = .ok (.iadd, 1) := by decide +kernel
theorem dX9_save_35 : decode cX9_save 35 = .ok (.putfield 260, 3) := by decide +kernel
theorem dX9_save_38 : decode cX9_save 38 = .ok (.return_, 1) := by decide +kernel
theorem cc_X9_save_X9_dropOldest : CallC tX9_save tX9_dropOldest 0 := ⟨by decide +kernel, by decide +kernel, by decide +kernel, by decide, by decide, qw_15, qw_365⟩
theorem cc_X9_save_X6_copyFrom : CallC tX9_save tX6_copyFrom 1 := ⟨by decide +kernel, by decide +kernel, by decide +kernel, by decide, by decide, qw_16, qw_369⟩
def kX9_save : Nat → WOp := cN 17 (cN 8 (cN 1 (cN 0 (cL 0 (o_aload 1 0)) (cL 1 (o_getf 4 7 3))) (cN 4 (cL 4 (o_push 5 4)) (cN 5 (cL 5 (o_icmp_lt 12 8)) (cL 8 (o_aload 9 0))))) (cN 12 (cN 9 (cL 9 (o_callV 12 7 0 tX9_dropOldest 0 0)) (cL 12 (o_aload 13 0))) (cN 13 (cL 13 (o_getf 16 7 2)) (cN 16 (cL 16 (o_aload 17 0)) (cL 17 (o_getf 20 7 3)))))) (cN 28 (cN 21 (cN 20 (cL 20 (o_aald 21 3)) (cL 21 (o_aload 22 0))) (cN 22 (cL 22 (o_getf 25 7 0)) (cN 25 (cL 25 (o_callV 28 5 1 tX6_copyFrom 0 0)) (cL 28 (o_aload 29 0))))) (cN 33 (cN 29 (cL 29 (o_dup 30)) (cN 30 (cL 30 (o_getf 33 7 3)) (cL 33 (o_push 34 1)))) (cN 34 (cL 34 (o_iadd 35)) (cN 35 (cL 35 (o_puti 38 7 3)) (cL 38 (o_vret))))))
theorem sX9_save : ∀ pc, Snd tX9_save G1 pc (kX9_save pc) := s_N (s_N (s_N (s_N (s_L (s_aload_n dX9_save_0 rfl)) (s_L (s_getf ok_7 (k := 3) (by decide) dX9_save_1 qw_253))) (s_N (s_L (s_iconst dX9_save_4 (by decide +kernel))) (s_N (s_L (s_o_icmp_lt dX9_save_5 (by decide))) (s_L (s_aload_n dX9_save_8 rfl))))) (s_N (s_N (s_L (s_callV (d' := tX9_dropOldest) (mc := 0) (ms := 0) ok_7 cc_X9_save_X9_dropOldest qw_362 qw_364 qw_2 dX9_save_9)) (s_L (s_aload_n dX9_save_12 rfl))) (s_N (s_L (s_getf ok_7 (k := 2) (by decide) dX9_save_13 qw_252)) (s_N (s_L (s_aload_n dX9_save_16 rfl)) (s_L (s_getf ok_7 (k := 3) (by decide) dX9_save_17 qw_253)))))) (s_N (s_N (s_N (s_L (s_aald (by decide) dX9_save_20)) (s_L (s_aload_n dX9_save_21 rfl))) (s_N (s_L (s_getf ok_7 (k := 0) (by decide) dX9_save_22 qw_250)) (s_N (s_L (s_callV (d' := tX6_copyFrom) (mc := 0) (ms := 0) ok_5 cc_X9_save_X6_copyFrom qw_366 qw_367 qw_368 dX9_save_25)) (s_L (s_aload_n dX9_save_28 rfl))))) (s_N (s_N (s_L (s_o_dup dX9_save_29)) (s_N (s_L (s_getf ok_7 (k := 3) (by decide) dX9_save_30 qw_253)) (s_L (s_iconst dX9_save_33 (by decide +kernel))))) (s_N (s_L (s_o_iadd dX9_save_34)) (s_N (s_L (s_puti ok_7 (k := 3) (by decide) rfl (Or.inl rfl) dX9_save_35 qw_253)) (s_L (s_vret rfl dX9_save_38))))))
/-! PlateArm.dropOldest -/
theorem dX9_dropOldest_0 : decode cX9_dropOldest 0 = .ok (.aload_n 0, 1) := by decide +kernel
theorem dX9_dropOldest_1 : decode cX9_dropOldest 1 = .ok (.getfield 19, 3) := by decide +kernel
theorem dX9_dropOldest_4 : decode cX9_dropOldest 4 = .ok (.iconst 0, 1) := by decide +kernel
theorem dX9_dropOldest_5 : decode cX9_dropOldest 5 = .ok (.aaload, 1) := by decide +kernel
theorem dX9_dropOldest_6 : decode cX9_dropOldest 6 = .ok (.astore_n 1, 1) := by decide +kernel
theorem dX9_dropOldest_7 : decode cX9_dropOldest 7 = .ok (.iconst 1, 1) := by decide +kernel
theorem dX9_dropOldest_8 : decode cX9_dropOldest 8 = .ok (.istore_n 2, 1) := by decide +kernel
theorem dX9_dropOldest_9 : decode cX9_dropOldest 9 = .ok (.iload_n 2, 1) := by decide +kernel
theorem dX9_dropOldest_10 : decode cX9_dropOldest 10 = .ok (.iconst 4, 1) := by decide +kernel
theorem dX9_dropOldest_11 : decode cX9_dropOldest 11 = .ok (.if_icmp .ge 23, 3) := by decide +kernel
theorem dX9_dropOldest_14 : decode cX9_dropOldest 14 = .ok (.aload_n 0, 1) := by decide +kernel
theorem dX9_dropOldest_15 : decode cX9_dropOldest 15 = .ok (.getfield 19, 3) := by decide +kernel
theorem dX9_dropOldest_18 : decode cX9_dropOldest 18 = .ok (.iload_n 2, 1) := by decide +kernel
theorem dX9_dropOldest_19 : decode cX9_dropOldest 19 = .ok (.iconst 1, 1) := by decide +kernel
theorem dX9_dropOldest_20 : decode cX9_dropOldest 20 = .ok (.isub, 1) := by decide +kernel
theorem dX9_dropOldest_21 : decode cX9_dropOldest 21 = .ok (.aload_n 0, 1) := by decide +kernel
theorem dX9_dropOldest_22 : decode cX9_dropOldest 22 = .ok (.getfield 19, 3) := by decide +kernel
theorem dX9_dropOldest_25 : decode cX9_dropOldest 25 = .ok (.iload_n 2, 1) := by decide +kernel
theorem dX9_dropOldest_26 : decode cX9_dropOldest 26 = .ok (.aaload, 1) := by decide +kernel
theorem dX9_dropOldest_27 : decode cX9_dropOldest 27 = .ok (.aastore, 1) := by decide +kernel
theorem dX9_dropOldest_28 : decode cX9_dropOldest 28 = .ok (.iinc 2 1, 3) := by decide +kernel
theorem dX9_dropOldest_31 : decode cX9_dropOldest 31 = .ok (.goto (-22), 3) := by decide +kernel
theorem dX9_dropOldest_34 : decode cX9_dropOldest 34 = .ok (.aload_n 0, 1) := by decide +kernel
theorem dX9_dropOldest_35 : decode cX9_dropOldest 35 = .ok (.getfield 19, 3) := by decide +kernel
theorem dX9_dropOldest_38 : decode cX9_dropOldest 38 = .ok (.iconst 3, 1) := by decide +kernel
theorem dX9_dropOldest_39 : decode cX9_dropOldest 39 = .ok (.aload_n 1, 1) := by decide +kernel
theorem dX9_dropOldest_40 : decode cX9_dropOldest 40 = .ok (.aastore, 1) := by decide +kernel
theorem dX9_dropOldest_41 : decode cX9_dropOldest 41 = .ok (.aload_n 0, 1) := by decide +kernel
theorem dX9_dropOldest_42 : decode cX9_dropOldest 42 = .ok (.iconst 3, 1) := by decide +kernel
theorem dX9_dropOldest_43 : decode cX9_dropOldest 43 = .ok (.putfield 260, 3) := by decide +kernel
theorem dX9_dropOldest_46 : decode cX9_dropOldest 46 = .ok (.return_, 1) := by decide +kernel
def kX9_dropOldest : Nat → WOp := cN 20 (cN 8 (cN 4 (cN 0 (cL 0 (o_aload 1 0)) (cN 1 (cL 1 (o_getf 4 7 2)) (cL 4 (o_push 5 0)))) (cN 6 (cN 5 (cL 5 (o_aald 6 3)) (cL 6 (o_astore 7 1))) (cN 7 (cL 7 (o_push 8 1)) (cL 8 (o_istore 9 2))))) (cN 14 (cN 10 (cN 9 (cL 9 (o_iload 10 2)) (cL 10 (o_push 11 4))) (cN 11 (cL 11 (o_icmp_ge 34 14)) (cL 14 (o_aload 15 0)))) (cN 18 (cN 15 (cL 15 (o_getf 18 7 2)) (cL 18 (o_iload 19 2))) (cN 19 (cL 19 (o_push 20 1)) (cL 20 (o_isub 21)))))) (cN 34 (cN 26 (cN 22 (cN 21 (cL 21 (o_aload 22 0)) (cL 22 (o_getf 25 7 2))) (cN 25 (cL 25 (o_iload 26 2)) (cL 26 (o_aald 27 3)))) (cN 28 (cN 27 (cL 27 (o_aast 28)) (cL 28 (o_iinc 31 2 1))) (cN 31 (cL 31 (o_goto 9)) (cL 34 (o_aload 35 0))))) (cN 40 (cN 38 (cN 35 (cL 35 (o_getf 38 7 2)) (cL 38 (o_push 39 3))) (cN 39 (cL 39 (o_aload 40 1)) (cL 40 (o_aast 41)))) (cN 42 (cN 41 (cL 41 (o_aload 42 0)) (cL 42 (o_push 43 3))) (cN 43 (cL 43 (o_puti 46 7 3)) (cL 46 (o_vret))))))
theorem sX9_dropOldest : ∀ pc, Snd tX9_dropOldest G1 pc (kX9_dropOldest pc) := s_N (s_N (s_N (s_N (s_L (s_aload_n dX9_dropOldest_0 rfl)) (s_N (s_L (s_getf ok_7 (k := 2) (by decide) dX9_dropOldest_1 qw_252)) (s_L (s_iconst dX9_dropOldest_4 (by decide +kernel))))) (s_N (s_N (s_L (s_aald (by decide) dX9_dropOldest_5)) (s_L (s_astore_n dX9_dropOldest_6 rfl (by decide)))) (s_N (s_L (s_iconst dX9_dropOldest_7 (by decide +kernel))) (s_L (s_istore_n dX9_dropOldest_8 rfl (by decide)))))) (s_N (s_N (s_N (s_L (s_iload_n dX9_dropOldest_9 rfl)) (s_L (s_iconst dX9_dropOldest_10 (by decide +kernel)))) (s_N (s_L (s_o_icmp_ge dX9_dropOldest_11 (by decide))) (s_L (s_aload_n dX9_dropOldest_14 rfl)))) (s_N (s_N (s_L (s_getf ok_7 (k := 2) (by decide) dX9_dropOldest_15 qw_252)) (s_L (s_iload_n dX9_dropOldest_18 rfl))) (s_N (s_L (s_iconst dX9_dropOldest_19 (by decide +kernel))) (s_L (s_o_isub dX9_dropOldest_20)))))) (s_N (s_N (s_N (s_N (s_L (s_aload_n dX9_dropOldest_21 rfl)) (s_L (s_getf ok_7 (k := 2) (by decide) dX9_dropOldest_22 qw_252))) (s_N (s_L (s_iload_n dX9_dropOldest_25 rfl)) (s_L (s_aald (by decide) dX9_dropOldest_26)))) (s_N (s_N (s_L (s_aast ok_5 dX9_dropOldest_27)) (s_L (s_iinc (v := 1) dX9_dropOldest_28 (by decide +kernel) (by decide)))) (s_N (s_L (s_o_goto dX9_dropOldest_31 (by decide))) (s_L (s_aload_n dX9_dropOldest_34 rfl))))) (s_N (s_N (s_N (s_L (s_getf ok_7 (k := 2) (by decide) dX9_dropOldest_35 qw_252)) (s_L (s_iconst dX9_dropOldest_38 (by decide +kernel)))) (s_N (s_L (s_aload_n dX9_dropOldest_39 rfl)) (s_L (s_aast ok_5 dX9_dropOldest_40)))) (s_N (s_N (s_L (s_aload_n dX9_dropOldest_41 rfl)) (s_L (s_iconst dX9_dropOldest_42 (by decide +kernel)))) (s_N (s_L (s_puti ok_7 (k := 3) (by decide) rfl (Or.inl rfl) dX9_dropOldest_43 qw_253)) (s_L (s_vret rfl dX9_dropOldest_46))))))
