/-! PlateArm.<init> -/
theorem dX9_init_0 : decode cX9_init 0 = .ok (.aload_n 0, 1) := by decide +kernel
theorem dX9_init_1 : decode cX9_init 1 = .ok (.invokespecial 1, 3) := by decide +kernel
theorem dX9_init_4 : decode cX9_init 4 = .ok (.aload_n 0, 1) := by decide +kernel
theorem dX9_init_5 : decode cX9_init 5 = .ok (.new 7, 3) := by decide +kernel
theorem dX9_init_8 : decode cX9_init 8 = .ok (.dup, 1) := by decide +kernel
theorem dX9_init_9 : decode cX9_init 9 = .ok (.invokespecial 9, 3) := by decide +kernel
theorem dX9_init_12 : decode cX9_init 12 = .ok (.putfield 10, 3) := by decide +kernel
theorem dX9_init_15 : decode cX9_init 15 = .ok (.aload_n 0, 1) := by decide +kernel
theorem dX9_init_16 : decode cX9_init 16 = .ok (.new 7, 3) := by decide +kernel
theorem dX9_init_19 : decode cX9_init 19 = .ok (.dup, 1) := by decide +kernel
theorem dX9_init_20 : decode cX9_init 20 = .ok (.invokespecial 9, 3) := by decide +kernel
theorem dX9_init_23 : decode cX9_init 23 = .ok (.putfield 16, 3) := by decide +kernel
theorem dX9_init_26 : decode cX9_init 26 = .ok (.aload_n 0, 1) := by decide +kernel
theorem dX9_init_27 : decode cX9_init 27 = .ok (.iconst 4, 1) := by decide +kernel
theorem dX9_init_28 : decode cX9_init 28 = .ok (.anewarray 7, 3) := by decide +kernel
theorem dX9_init_31 : decode cX9_init 31 = .ok (.putfield 19, 3) := by decide +kernel
theorem dX9_init_34 : decode cX9_init 34 = .ok (.aload_n 0, 1) := by decide +kernel
theorem dX9_init_35 : decode cX9_init 35 = .ok (.iconst 4, 1) := by decide +kernel
theorem dX9_init_36 : decode cX9_init 36 = .ok (.bipush 6, 2) := by decide +kernel
theorem dX9_init_38 : decode cX9_init 38 = .ok (.multianewarray 23 2, 4) := by decide +kernel
theorem dX9_init_42 : decode cX9_init 42 = .ok (.putfield 25, 3) := by decide +kernel
theorem dX9_init_45 : decode cX9_init 45 = .ok (.aload_n 0, 1) := by decide +kernel
theorem dX9_init_46 : decode cX9_init 46 = .ok (.new 28, 3) := by decide +kernel
theorem dX9_init_49 : decode cX9_init 49 = .ok (.dup, 1) := by decide +kernel
theorem dX9_init_50 : decode cX9_init 50 = .ok (.invokespecial 30, 3) := by decide +kernel
theorem dX9_init_53 : decode cX9_init 53 = .ok (.putfield 31, 3) := by decide +kernel
theorem dX9_init_56 : decode cX9_init 56 = .ok (.aload_n 0, 1) := by decide +kernel
theorem dX9_init_57 : decode cX9_init 57 = .ok (.new 35, 3) := by decide +kernel
theorem dX9_init_60 : decode cX9_init 60 = .ok (.dup, 1) := by decide +kernel
theorem dX9_init_61 : decode cX9_init 61 = .ok (.invokespecial 37, 3) := by decide +kernel
theorem dX9_init_64 : decode cX9_init 64 = .ok (.putfield 38, 3) := by decide +kernel
theorem dX9_init_67 : decode cX9_init 67 = .ok (.iconst 0, 1) := by decide +kernel
theorem dX9_init_68 : decode cX9_init 68 = .ok (.istore_n 1, 1) := by decide +kernel
theorem dX9_init_69 : decode cX9_init 69 = .ok (.iload_n 1, 1) := by decide +kernel
theorem dX9_init_70 : decode cX9_init 70 = .ok (.iconst 4, 1) := by decide +kernel
theorem dX9_init_71 : decode cX9_init 71 = .ok (.if_icmp .ge 22, 3) := by decide +kernel
theorem dX9_init_74 : decode cX9_init 74 = .ok (.aload_n 0, 1) := by decide +kernel
theorem dX9_init_75 : decode cX9_init 75 = .ok (.getfield 19, 3) := by decide +kernel
theorem dX9_init_78 : decode cX9_init 78 = .ok (.iload_n 1, 1) := by decide +kernel
theorem dX9_init_79 : decode cX9_init 79 = .ok (.new 7, 3) := by decide +kernel
theorem dX9_init_82 : decode cX9_init 82 = .ok (.dup, 1) := by decide +kernel
theorem dX9_init_83 : decode cX9_init 83 = .ok (.invokespecial 9, 3) := by decide +kernel
theorem dX9_init_86 : decode cX9_init 86 = .ok (.aastore, 1) := by decide +kernel
theorem dX9_init_87 : decode cX9_init 87 = .ok (.iinc 1 1, 3) := by decide +kernel
theorem dX9_init_90 : decode cX9_init 90 = .ok (.goto (-21), 3) := by decide +kernel
theorem dX9_init_93 : decode cX9_init 93 = .ok (.return_, 1) := by decide +kernel
theorem cc_X9_init_X6_init : CallC tX9_init tX6_init 0 := ⟨by decide +kernel, by decide +kernel, by decide +kernel, by decide, by decide, qw_71, qw_107⟩
theorem cc_X9_init_X3_init : CallC tX9_init tX3_init 0 := ⟨by decide +kernel, by decide +kernel, by decide +kernel, by decide, by decide, qw_76, qw_278⟩
theorem cc_X9_init_X2_init : CallC tX9_init tX2_init 0 := ⟨by decide +kernel, by decide +kernel, by decide +kernel, by decide, by decide, qw_77, qw_294⟩
def kX9_init : Nat → WOp := cN 46 (cN 20 (cN 8 (cN 1 (cN 0 (cL 0 (o_aload 1 0)) (cL 1 (o_objinit 4))) (cN 4 (cL 4 (o_aload 5 0)) (cN 5 (cL 5 (o_new 8 5 8 [.int 0, .int 0, .int 0, .null, .null, .null, .null, .null])) (cL 8 (o_dup 9))))) (cN 15 (cN 9 (cL 9 (o_callI 12 0 tX6_init 11 135)) (cN 12 (cL 12 (o_putf 15 7 0 (.object "PlateArm$State"))) (cL 15 (o_aload 16 0)))) (cN 16 (cL 16 (o_new 19 5 8 [.int 0, .int 0, .int 0, .null, .null, .null, .null, .null])) (cN 19 (cL 19 (o_dup 20)) (cL 20 (o_callI 23 0 tX6_init 11 135)))))) (cN 34 (cN 27 (cN 23 (cL 23 (o_putf 26 7 1 (.object "PlateArm$State"))) (cN 26 (cL 26 (o_aload 27 0)) (cL 27 (o_push 28 4)))) (cN 28 (cL 28 (o_anewa 31 4)) (cN 31 (cL 31 (o_putf 34 7 2 (.array (.object "PlateArm$State")))) (cL 34 (o_aload 35 0))))) (cN 38 (cN 35 (cL 35 (o_push 36 4)) (cN 36 (cL 36 (o_push 38 6)) (cL 38 (o_mna 42 4 6)))) (cN 42 (cL 42 (o_putf 45 7 4 (.array (.array .int)))) (cN 45 (cL 45 (o_aload 46 0)) (cL 46 (o_new 49 2 2 [.int 0, .null]))))))) (cN 69 (cN 57 (cN 50 (cN 49 (cL 49 (o_dup 50)) (cL 50 (o_callI 53 0 tX3_init 1 150))) (cN 53 (cL 53 (o_putf 56 7 5 (.object "PlateArm$CommandText"))) (cN 56 (cL 56 (o_aload 57 0)) (cL 57 (o_new 60 1 6 [.null, .null, .int 0, .int 0, .int 0, .int 0]))))) (cN 64 (cN 60 (cL 60 (o_dup 61)) (cN 61 (cL 61 (o_callI 64 0 tX2_init 1 3)) (cL 64 (o_putf 67 7 6 (.object "PlateArm$CommandScan"))))) (cN 67 (cL 67 (o_push 68 0)) (cN 68 (cL 68 (o_istore 69 1)) (cL 69 (o_iload 70 1)))))) (cN 79 (cN 74 (cN 70 (cL 70 (o_push 71 4)) (cN 71 (cL 71 (o_icmp_ge 93 74)) (cL 74 (o_aload 75 0)))) (cN 75 (cL 75 (o_getf 78 7 2)) (cN 78 (cL 78 (o_iload 79 1)) (cL 79 (o_new 82 5 8 [.int 0, .int 0, .int 0, .null, .null, .null, .null, .null]))))) (cN 86 (cN 82 (cL 82 (o_dup 83)) (cN 83 (cL 83 (o_callI 86 0 tX6_init 11 135)) (cL 86 (o_aast 87)))) (cN 87 (cL 87 (o_iinc 90 1 1)) (cN 90 (cL 90 (o_goto 69)) (cL 93 (o_vret)))))))
theorem sX9_init : ∀ pc, Snd tX9_init G1 pc (kX9_init pc) := s_N (s_N (s_N (s_N (s_N (s_L (s_aload_n dX9_init_0 rfl)) (s_L (s_objinit qw_100 qw_101 qw_102 (by decide) (by decide) dX9_init_1))) (s_N (s_L (s_aload_n dX9_init_4 rfl)) (s_N (s_L (s_new ok_5 (fs := [.int 0, .int 0, .int 0, .null, .null, .null, .null, .null]) (fun j hj => by rcases (show j = 0 ∨ j = 1 ∨ j = 2 ∨ j = 3 ∨ j = 4 ∨ j = 5 ∨ j = 6 ∨ j = 7 by omega) with rfl | rfl | rfl | rfl | rfl | rfl | rfl | rfl <;> rfl) (by decide) qw_103 qw_104 qw_71 dX9_init_5)) (s_L (s_o_dup dX9_init_8))))) (s_N (s_N (s_L (s_callI (d' := tX6_init) (mc := 11) (ms := 135) cc_X9_init_X6_init rfl rfl (Or.inr ⟨"PlateArm", by simp [EWn, tX9_init, tX6_init, RX9, RX6, yX6_init, yX1_init, yX2_init, yX3_init, yX4_init, yX5_init, yX7_init, yX9_init]⟩) qw_106 dX9_init_9)) (s_N (s_L (s_putf ok_7 (k := 0) (by decide) rfl (Or.inr ⟨rfl, rfl, rfl⟩) dX9_init_12 qw_319)) (s_L (s_aload_n dX9_init_15 rfl)))) (s_N (s_L (s_new ok_5 (fs := [.int 0, .int 0, .int 0, .null, .null, .null, .null, .null]) (fun j hj => by rcases (show j = 0 ∨ j = 1 ∨ j = 2 ∨ j = 3 ∨ j = 4 ∨ j = 5 ∨ j = 6 ∨ j = 7 by omega) with rfl | rfl | rfl | rfl | rfl | rfl | rfl | rfl <;> rfl) (by decide) qw_103 qw_104 qw_71 dX9_init_16)) (s_N (s_L (s_o_dup dX9_init_19)) (s_L (s_callI (d' := tX6_init) (mc := 11) (ms := 135) cc_X9_init_X6_init rfl rfl (Or.inr ⟨"PlateArm", by simp [EWn, tX9_init, tX6_init, RX9, RX6, yX6_init, yX1_init, yX2_init, yX3_init, yX4_init, yX5_init, yX7_init, yX9_init]⟩) qw_106 dX9_init_20)))))) (s_N (s_N (s_N (s_L (s_putf ok_7 (k := 1) (by decide) rfl (Or.inr ⟨rfl, rfl, rfl⟩) dX9_init_23 qw_320)) (s_N (s_L (s_aload_n dX9_init_26 rfl)) (s_L (s_iconst dX9_init_27 (by decide +kernel))))) (s_N (s_L (s_anewa (N := 4) (by decide) qw_103 dX9_init_28)) (s_N (s_L (s_putf ok_7 (k := 2) (by decide) rfl (Or.inr ⟨rfl, rfl, rfl⟩) dX9_init_31 qw_321)) (s_L (s_aload_n dX9_init_34 rfl))))) (s_N (s_N (s_L (s_iconst dX9_init_35 (by decide +kernel))) (s_N (s_L (s_bipush dX9_init_36 (by decide +kernel))) (s_L (s_mna (N := 4) (K := 6) (by decide) (by decide) qw_272 qw_141 dX9_init_38)))) (s_N (s_L (s_putf ok_7 (k := 4) (by decide) rfl (Or.inr ⟨rfl, rfl, rfl⟩) dX9_init_42 qw_323)) (s_N (s_L (s_aload_n dX9_init_45 rfl)) (s_L (s_new ok_2 (fs := [.int 0, .null]) (fun j hj => by rcases (show j = 0 ∨ j = 1 by omega) with rfl | rfl <;> rfl) (by decide) qw_274 qw_275 qw_76 dX9_init_46))))))) (s_N (s_N (s_N (s_N (s_L (s_o_dup dX9_init_49)) (s_L (s_callI (d' := tX3_init) (mc := 1) (ms := 150) cc_X9_init_X3_init rfl rfl (Or.inr ⟨"PlateArm", by simp [EWn, tX9_init, tX3_init, RX9, RX6, yX6_init, yX1_init, yX2_init, yX3_init, yX4_init, yX5_init, yX7_init, yX9_init]⟩) qw_277 dX9_init_50))) (s_N (s_L (s_putf ok_7 (k := 5) (by decide) rfl (Or.inr ⟨rfl, rfl, rfl⟩) dX9_init_53 qw_324)) (s_N (s_L (s_aload_n dX9_init_56 rfl)) (s_L (s_new ok_1 (fs := [.null, .null, .int 0, .int 0, .int 0, .int 0]) (fun j hj => by rcases (show j = 0 ∨ j = 1 ∨ j = 2 ∨ j = 3 ∨ j = 4 ∨ j = 5 by omega) with rfl | rfl | rfl | rfl | rfl | rfl <;> rfl) (by decide) qw_290 qw_291 qw_77 dX9_init_57))))) (s_N (s_N (s_L (s_o_dup dX9_init_60)) (s_N (s_L (s_callI (d' := tX2_init) (mc := 1) (ms := 3) cc_X9_init_X2_init rfl rfl (Or.inr ⟨"PlateArm", by simp [EWn, tX9_init, tX2_init, RX9, RX6, yX6_init, yX1_init, yX2_init, yX3_init, yX4_init, yX5_init, yX7_init, yX9_init]⟩) qw_293 dX9_init_61)) (s_L (s_putf ok_7 (k := 6) (by decide) rfl (Or.inr ⟨rfl, rfl, rfl⟩) dX9_init_64 qw_325)))) (s_N (s_L (s_iconst dX9_init_67 (by decide +kernel))) (s_N (s_L (s_istore_n dX9_init_68 rfl (by decide))) (s_L (s_iload_n dX9_init_69 rfl)))))) (s_N (s_N (s_N (s_L (s_iconst dX9_init_70 (by decide +kernel))) (s_N (s_L (s_o_icmp_ge dX9_init_71 (by decide))) (s_L (s_aload_n dX9_init_74 rfl)))) (s_N (s_L (s_getf ok_7 (k := 2) (by decide) dX9_init_75 qw_321)) (s_N (s_L (s_iload_n dX9_init_78 rfl)) (s_L (s_new ok_5 (fs := [.int 0, .int 0, .int 0, .null, .null, .null, .null, .null]) (fun j hj => by rcases (show j = 0 ∨ j = 1 ∨ j = 2 ∨ j = 3 ∨ j = 4 ∨ j = 5 ∨ j = 6 ∨ j = 7 by omega) with rfl | rfl | rfl | rfl | rfl | rfl | rfl | rfl <;> rfl) (by decide) qw_103 qw_104 qw_71 dX9_init_79))))) (s_N (s_N (s_L (s_o_dup dX9_init_82)) (s_N (s_L (s_callI (d' := tX6_init) (mc := 11) (ms := 135) cc_X9_init_X6_init rfl rfl (Or.inr ⟨"PlateArm", by simp [EWn, tX9_init, tX6_init, RX9, RX6, yX6_init, yX1_init, yX2_init, yX3_init, yX4_init, yX5_init, yX7_init, yX9_init]⟩) qw_106 dX9_init_83)) (s_L (s_aast ok_5 dX9_init_86)))) (s_N (s_L (s_iinc (v := 1) dX9_init_87 (by decide +kernel) (by decide))) (s_N (s_L (s_o_goto dX9_init_90 (by decide))) (s_L (s_vret rfl dX9_init_93)))))))
/-! PlateArm.plate -/
theorem dX9_plate_0 : decode cX9_plate 0 = .ok (.iload_n 1, 1) := by decide +kernel
theorem dX9_plate_1 : decode cX9_plate 1 = .ok (.iload_n 2, 1) := by decide +kernel
theorem dX9_plate_2 : decode cX9_plate 2 = .ok (.invokestatic 42, 3) := by decide +kernel
theorem dX9_plate_5 : decode cX9_plate 5 = .ok (.ifCond .ne 11, 3) := by decide +kernel
theorem dX9_plate_8 : decode cX9_plate 8 = .ok (.new 46, 3) := by decide +kernel
theorem dX9_plate_11 : decode cX9_plate 11 = .ok (.dup, 1) := by decide +kernel
theorem dX9_plate_12 : decode cX9_plate 12 = .ok (.invokespecial 48, 3) := by decide +kernel
theorem dX9_plate_15 : decode cX9_plate 15 = .ok (.athrow, 1) := by decide +kernel
theorem dX9_plate_16 : decode cX9_plate 16 = .ok (.aload_n 0, 1) := by decide +kernel
theorem dX9_plate_17 : decode cX9_plate 17 = .ok (.invokevirtual 49, 3) := by decide +kernel
theorem dX9_plate_20 : decode cX9_plate 20 = .ok (.aload_n 0, 1) := by decide +kernel
theorem dX9_plate_21 : decode cX9_plate 21 = .ok (.getfield 10, 3) := by decide +kernel
theorem dX9_plate_24 : decode cX9_plate 24 = .ok (.getfield 52, 3) := by decide +kernel
theorem dX9_plate_27 : decode cX9_plate 27 = .ok (.getfield 56, 3) := by decide +kernel
theorem dX9_plate_30 : decode cX9_plate 30 = .ok (.istore_n 3, 1) := by decide +kernel
theorem dX9_plate_31 : decode cX9_plate 31 = .ok (.aload_n 0, 1) := by decide +kernel
theorem dX9_plate_32 : decode cX9_plate 32 = .ok (.getfield 10, 3) := by decide +kernel
theorem dX9_plate_35 : decode cX9_plate 35 = .ok (.iload_n 1, 1) := by decide +kernel
theorem dX9_plate_36 : decode cX9_plate 36 = .ok (.iload_n 2, 1) := by decide +kernel
theorem dX9_plate_37 : decode cX9_plate 37 = .ok (.invokevirtual 62, 3) := by decide +kernel
theorem dX9_plate_40 : decode cX9_plate 40 = .ok (.iload_n 3, 1) := by decide +kernel
theorem dX9_plate_41 : decode cX9_plate 41 = .ok (.ireturn, 1) := by decide +kernel
theorem thr_X9_plate_8 : ThrOk tX9_plate 46 48 "java/lang/IllegalArgumentException" := ⟨thf_48.1, qw_690, qw_84, thf_48.2.1, thf_48.2.2.1, thf_48.2.2.2.1, thf_48.2.2.2.2, by decide, by decide⟩
theorem cc_X9_plate_X9_plateFits : CallC tX9_plate tX9_plateFits 2 := ⟨by decide +kernel, by decide +kernel, by decide +kernel, by decide, by decide, qw_70, qw_603⟩
theorem cc_X9_plate_X9_save : CallC tX9_plate tX9_save 0 := ⟨by decide +kernel, by decide +kernel, by decide +kernel, by decide, by decide, qw_70, qw_577⟩
theorem cc_X9_plate_X6_putIn : CallC tX9_plate tX6_putIn 2 := ⟨by decide +kernel, by decide +kernel, by decide +kernel, by decide, by decide, qw_71, qw_607⟩
def kX9_plate : Nat → WOp := cN 21 (cN 8 (cN 1 (cN 0 (cL 0 (o_iload 1 1)) (cL 1 (o_iload 2 2))) (cN 2 (cL 2 (o_callS 5 2 tX9_plateFits 0 0)) (cN 5 (cL 5 (o_if_ne 16 8)) (cL 8 (o_throw "java/lang/IllegalArgumentException"))))) (cN 16 (cN 11 (cL 11 (o_dup 12)) (cL 16 (o_aload 17 0))) (cN 17 (cL 17 (o_callV 20 7 0 tX9_save 0 0)) (cN 20 (cL 20 (o_aload 21 0)) (cL 21 (o_getf 24 7 0)))))) (cN 32 (cN 27 (cN 24 (cL 24 (o_getf 27 5 5)) (cL 27 (o_getf 30 4 0))) (cN 30 (cL 30 (o_istore 31 3)) (cN 31 (cL 31 (o_aload 32 0)) (cL 32 (o_getf 35 7 0))))) (cN 36 (cN 35 (cL 35 (o_iload 36 1)) (cL 36 (o_iload 37 2))) (cN 37 (cL 37 (o_callV 40 5 2 tX6_putIn 0 0)) (cN 40 (cL 40 (o_iload 41 3)) (cL 41 (o_iret))))))
theorem sX9_plate : ∀ pc, Snd tX9_plate G1 pc (kX9_plate pc) := s_N (s_N (s_N (s_N (s_L (s_iload_n dX9_plate_0 rfl)) (s_L (s_iload_n dX9_plate_1 rfl))) (s_N (s_L (s_callS (d' := tX9_plateFits) (mc := 0) (ms := 0) cc_X9_plate_X9_plateFits qw_601 qw_602 dX9_plate_2)) (s_N (s_L (s_o_if_ne dX9_plate_5 (by decide))) (s_L (s_throw (thr_X9_plate_8) dX9_plate_8 dX9_plate_11 dX9_plate_12 dX9_plate_15))))) (s_N (s_N (s_L (s_o_dup dX9_plate_11)) (s_L (s_aload_n dX9_plate_16 rfl))) (s_N (s_L (s_callV (d' := tX9_save) (mc := 0) (ms := 0) ok_7 cc_X9_plate_X9_save qw_574 qw_576 qw_16 dX9_plate_17)) (s_N (s_L (s_aload_n dX9_plate_20 rfl)) (s_L (s_getf ok_7 (k := 0) (by decide) dX9_plate_21 qw_319)))))) (s_N (s_N (s_N (s_L (s_getf ok_5 (k := 5) (by decide) dX9_plate_24 qw_249)) (s_L (s_getf ok_4 (k := 0) (by decide) dX9_plate_27 qw_149))) (s_N (s_L (s_istore_n dX9_plate_30 rfl (by decide))) (s_N (s_L (s_aload_n dX9_plate_31 rfl)) (s_L (s_getf ok_7 (k := 0) (by decide) dX9_plate_32 qw_319))))) (s_N (s_N (s_L (s_iload_n dX9_plate_35 rfl)) (s_L (s_iload_n dX9_plate_36 rfl))) (s_N (s_L (s_callV (d' := tX6_putIn) (mc := 0) (ms := 0) ok_5 cc_X9_plate_X6_putIn qw_604 qw_605 qw_606 dX9_plate_37)) (s_N (s_L (s_iload_n dX9_plate_40 rfl)) (s_L (s_iret rfl dX9_plate_41))))))
/-! PlateArm.request -/
theorem dX9_request_0 : decode cX9_request 0 = .ok (.aload_n 0, 1) := by decide +kernel
theorem dX9_request_1 : decode cX9_request 1 = .ok (.iload_n 1, 1) := by decide +kernel
theorem dX9_request_2 : decode cX9_request 2 = .ok (.iload_n 2, 1) := by decide +kernel
theorem dX9_request_3 : decode cX9_request 3 = .ok (.iload_n 3, 1) := by decide +kernel
theorem dX9_request_4 : decode cX9_request 4 = .ok (.invokevirtual 66, 3) := by decide +kernel
theorem dX9_request_7 : decode cX9_request 7 = .ok (.ifCond .ne 11, 3) := by decide +kernel
theorem dX9_request_10 : decode cX9_request 10 = .ok (.new 46, 3) := by decide +kernel
theorem dX9_request_13 : decode cX9_request 13 = .ok (.dup, 1) := by decide +kernel
theorem dX9_request_14 : decode cX9_request 14 = .ok (.invokespecial 48, 3) := by decide +kernel
theorem dX9_request_17 : decode cX9_request 17 = .ok (.athrow, 1) := by decide +kernel
theorem dX9_request_18 : decode cX9_request 18 = .ok (.aload_n 0, 1) := by decide +kernel
theorem dX9_request_19 : decode cX9_request 19 = .ok (.getfield 10, 3) := by decide +kernel
theorem dX9_request_22 : decode cX9_request 22 = .ok (.getfield 52, 3) := by decide +kernel
theorem dX9_request_25 : decode cX9_request 25 = .ok (.invokevirtual 70, 3) := by decide +kernel
theorem dX9_request_28 : decode cX9_request 28 = .ok (.ifCond .eq 11, 3) := by decide +kernel
theorem dX9_request_31 : decode cX9_request 31 = .ok (.new 74, 3) := by decide +kernel
theorem dX9_request_34 : decode cX9_request 34 = .ok (.dup, 1) := by decide +kernel
theorem dX9_request_35 : decode cX9_request 35 = .ok (.invokespecial 76, 3) := by decide +kernel
theorem dX9_request_38 : decode cX9_request 38 = .ok (.athrow, 1) := by decide +kernel
theorem dX9_request_39 : decode cX9_request 39 = .ok (.aload_n 0, 1) := by decide +kernel
theorem dX9_request_40 : decode cX9_request 40 = .ok (.invokevirtual 49, 3) := by decide +kernel
theorem dX9_request_43 : decode cX9_request 43 = .ok (.aload_n 0, 1) := by decide +kernel
theorem dX9_request_44 : decode cX9_request 44 = .ok (.getfield 10, 3) := by decide +kernel
theorem dX9_request_47 : decode cX9_request 47 = .ok (.getfield 52, 3) := by decide +kernel
theorem dX9_request_50 : decode cX9_request 50 = .ok (.iload_n 1, 1) := by decide +kernel
theorem dX9_request_51 : decode cX9_request 51 = .ok (.iload_n 2, 1) := by decide +kernel
theorem dX9_request_52 : decode cX9_request 52 = .ok (.iload_n 3, 1) := by decide +kernel
theorem dX9_request_53 : decode cX9_request 53 = .ok (.aload_n 0, 1) := by decide +kernel
theorem dX9_request_54 : decode cX9_request 54 = .ok (.getfield 10, 3) := by decide +kernel
theorem dX9_request_57 : decode cX9_request 57 = .ok (.getfield 77, 3) := by decide +kernel
theorem dX9_request_60 : decode cX9_request 60 = .ok (.invokevirtual 80, 3) := by decide +kernel
theorem dX9_request_63 : decode cX9_request 63 = .ok (.ireturn, 1) := by decide +kernel
theorem thr_X9_request_10 : ThrOk tX9_request 46 48 "java/lang/IllegalArgumentException" := ⟨thf_48.1, qw_690, qw_84, thf_48.2.1, thf_48.2.2.1, thf_48.2.2.2.1, thf_48.2.2.2.2, by decide, by decide⟩
theorem thr_X9_request_31 : ThrOk tX9_request 74 76 "java/lang/IllegalStateException" := ⟨thf_76.1, qw_816, qw_86, thf_76.2.1, thf_76.2.2.1, thf_76.2.2.2.1, thf_76.2.2.2.2, by decide, by decide⟩
theorem cc_X9_request_X9_requestFits : CallC tX9_request tX9_requestFits 3 := ⟨by decide +kernel, by decide +kernel, by decide +kernel, by decide, by decide, qw_70, qw_631⟩
theorem cc_X9_request_X5_isFull : CallC tX9_request tX5_isFull 0 := ⟨by decide +kernel, by decide +kernel, by decide +kernel, by decide, by decide, qw_73, qw_635⟩
theorem cc_X9_request_X9_save : CallC tX9_request tX9_save 0 := ⟨by decide +kernel, by decide +kernel, by decide +kernel, by decide, by decide, qw_70, qw_577⟩
theorem cc_X9_request_X5_add : CallC tX9_request tX5_add 4 := ⟨by decide +kernel, by decide +kernel, by decide +kernel, by decide, by decide, qw_73, qw_639⟩
def kX9_request : Nat → WOp := cN 31 (cN 10 (cN 2 (cN 0 (cL 0 (o_aload 1 0)) (cN 1 (cL 1 (o_iload 2 1)) (cL 2 (o_iload 3 2)))) (cN 4 (cN 3 (cL 3 (o_iload 4 3)) (cL 4 (o_callV 7 7 3 tX9_requestFits 0 0))) (cN 7 (cL 7 (o_if_ne 18 10)) (cL 10 (o_throw "java/lang/IllegalArgumentException"))))) (cN 19 (cN 13 (cL 13 (o_dup 14)) (cN 18 (cL 18 (o_aload 19 0)) (cL 19 (o_getf 22 7 0)))) (cN 25 (cN 22 (cL 22 (o_getf 25 5 5)) (cL 25 (o_callV 28 4 0 tX5_isFull 0 0))) (cN 28 (cL 28 (o_if_eq 39 31)) (cL 31 (o_throw "java/lang/IllegalStateException")))))) (cN 50 (cN 40 (cN 34 (cL 34 (o_dup 35)) (cN 39 (cL 39 (o_aload 40 0)) (cL 40 (o_callV 43 7 0 tX9_save 0 0)))) (cN 44 (cN 43 (cL 43 (o_aload 44 0)) (cL 44 (o_getf 47 7 0))) (cN 47 (cL 47 (o_getf 50 5 5)) (cL 50 (o_iload 51 1))))) (cN 53 (cN 51 (cL 51 (o_iload 52 2)) (cN 52 (cL 52 (o_iload 53 3)) (cL 53 (o_aload 54 0)))) (cN 57 (cN 54 (cL 54 (o_getf 57 7 0)) (cL 57 (o_getf 60 5 2))) (cN 60 (cL 60 (o_callV 63 4 4 tX5_add 0 0)) (cL 63 (o_iret))))))
theorem sX9_request : ∀ pc, Snd tX9_request G1 pc (kX9_request pc) := s_N (s_N (s_N (s_N (s_L (s_aload_n dX9_request_0 rfl)) (s_N (s_L (s_iload_n dX9_request_1 rfl)) (s_L (s_iload_n dX9_request_2 rfl)))) (s_N (s_N (s_L (s_iload_n dX9_request_3 rfl)) (s_L (s_callV (d' := tX9_requestFits) (mc := 0) (ms := 0) ok_7 cc_X9_request_X9_requestFits qw_628 qw_630 qw_21 dX9_request_4))) (s_N (s_L (s_o_if_ne dX9_request_7 (by decide))) (s_L (s_throw (thr_X9_request_10) dX9_request_10 dX9_request_13 dX9_request_14 dX9_request_17))))) (s_N (s_N (s_L (s_o_dup dX9_request_13)) (s_N (s_L (s_aload_n dX9_request_18 rfl)) (s_L (s_getf ok_7 (k := 0) (by decide) dX9_request_19 qw_319)))) (s_N (s_N (s_L (s_getf ok_5 (k := 5) (by decide) dX9_request_22 qw_249)) (s_L (s_callV (d' := tX5_isFull) (mc := 0) (ms := 0) ok_4 cc_X9_request_X5_isFull qw_632 qw_633 qw_634 dX9_request_25))) (s_N (s_L (s_o_if_eq dX9_request_28 (by decide))) (s_L (s_throw (thr_X9_request_31) dX9_request_31 dX9_request_34 dX9_request_35 dX9_request_38)))))) (s_N (s_N (s_N (s_L (s_o_dup dX9_request_34)) (s_N (s_L (s_aload_n dX9_request_39 rfl)) (s_L (s_callV (d' := tX9_save) (mc := 0) (ms := 0) ok_7 cc_X9_request_X9_save qw_574 qw_576 qw_16 dX9_request_40)))) (s_N (s_N (s_L (s_aload_n dX9_request_43 rfl)) (s_L (s_getf ok_7 (k := 0) (by decide) dX9_request_44 qw_319))) (s_N (s_L (s_getf ok_5 (k := 5) (by decide) dX9_request_47 qw_249)) (s_L (s_iload_n dX9_request_50 rfl))))) (s_N (s_N (s_L (s_iload_n dX9_request_51 rfl)) (s_N (s_L (s_iload_n dX9_request_52 rfl)) (s_L (s_aload_n dX9_request_53 rfl)))) (s_N (s_N (s_L (s_getf ok_7 (k := 0) (by decide) dX9_request_54 qw_319)) (s_L (s_getf ok_5 (k := 2) (by decide) dX9_request_57 qw_243))) (s_N (s_L (s_callV (d' := tX5_add) (mc := 0) (ms := 0) ok_4 cc_X9_request_X5_add qw_636 qw_637 qw_638 dX9_request_60)) (s_L (s_iret rfl dX9_request_63))))))
/-! PlateArm.cancel -/
theorem dX9_cancel_0 : decode cX9_cancel 0 = .ok (.aload_n 0, 1) := by decide +kernel
theorem dX9_cancel_1 : decode cX9_cancel 1 = .ok (.getfield 10, 3) := by decide +kernel
theorem dX9_cancel_4 : decode cX9_cancel 4 = .ok (.getfield 52, 3) := by decide +kernel
theorem dX9_cancel_7 : decode cX9_cancel 7 = .ok (.iload_n 1, 1) := by decide +kernel
theorem dX9_cancel_8 : decode cX9_cancel 8 = .ok (.invokevirtual 84, 3) := by decide +kernel
theorem dX9_cancel_11 : decode cX9_cancel 11 = .ok (.istore_n 2, 1) := by decide +kernel
theorem dX9_cancel_12 : decode cX9_cancel 12 = .ok (.iload_n 2, 1) := by decide +kernel
theorem dX9_cancel_13 : decode cX9_cancel 13 = .ok (.iconst (-1), 1) := by decide +kernel
theorem dX9_cancel_14 : decode cX9_cancel 14 = .ok (.if_icmp .ne 11, 3) := by decide +kernel
theorem dX9_cancel_17 : decode cX9_cancel 17 = .ok (.new 88, 3) := by decide +kernel
theorem dX9_cancel_20 : decode cX9_cancel 20 = .ok (.dup, 1) := by decide +kernel
theorem dX9_cancel_21 : decode cX9_cancel 21 = .ok (.invokespecial 90, 3) := by decide +kernel
theorem dX9_cancel_24 : decode cX9_cancel 24 = .ok (.athrow, 1) := by decide +kernel
theorem dX9_cancel_25 : decode cX9_cancel 25 = .ok (.aload_n 0, 1) := by decide +kernel
theorem dX9_cancel_26 : decode cX9_cancel 26 = .ok (.invokevirtual 49, 3) := by decide +kernel
theorem dX9_cancel_29 : decode cX9_cancel 29 = .ok (.aload_n 0, 1) := by decide +kernel
theorem dX9_cancel_30 : decode cX9_cancel 30 = .ok (.getfield 10, 3) := by decide +kernel
theorem dX9_cancel_33 : decode cX9_cancel 33 = .ok (.getfield 77, 3) := by decide +kernel
theorem dX9_cancel_36 : decode cX9_cancel 36 = .ok (.aload_n 0, 1) := by decide +kernel
theorem dX9_cancel_37 : decode cX9_cancel 37 = .ok (.getfield 10, 3) := by decide +kernel
theorem dX9_cancel_40 : decode cX9_cancel 40 = .ok (.getfield 52, 3) := by decide +kernel
theorem dX9_cancel_43 : decode cX9_cancel 43 = .ok (.getfield 91, 3) := by decide +kernel
theorem dX9_cancel_46 : decode cX9_cancel 46 = .ok (.iload_n 2, 1) := by decide +kernel
theorem dX9_cancel_47 : decode cX9_cancel 47 = .ok (.iaload, 1) := by decide +kernel
theorem dX9_cancel_48 : decode cX9_cancel 48 = .ok (.isub, 1) := by decide +kernel
theorem dX9_cancel_49 : decode cX9_cancel 49 = .ok (.istore_n 3, 1) := by decide +kernel
theorem dX9_cancel_50 : decode cX9_cancel 50 = .ok (.aload_n 0, 1) := by decide +kernel
theorem dX9_cancel_51 : decode cX9_cancel 51 = .ok (.getfield 10, 3) := by decide +kernel
theorem dX9_cancel_54 : decode cX9_cancel 54 = .ok (.getfield 52, 3) := by decide +kernel
theorem dX9_cancel_57 : decode cX9_cancel 57 = .ok (.iload_n 2, 1) := by decide +kernel
theorem dX9_cancel_58 : decode cX9_cancel 58 = .ok (.invokevirtual 95, 3) := by decide +kernel
theorem dX9_cancel_61 : decode cX9_cancel 61 = .ok (.iload_n 3, 1) := by decide +kernel
theorem dX9_cancel_62 : decode cX9_cancel 62 = .ok (.ireturn, 1) := by decide +kernel
theorem thr_X9_cancel_17 : ThrOk tX9_cancel 88 90 "java/lang/IndexOutOfBoundsException" := ⟨thf_90.1, qw_839, qw_87, thf_90.2.1, thf_90.2.2.1, thf_90.2.2.2.1, thf_90.2.2.2.2, by decide, by decide⟩
theorem cc_X9_cancel_X5_indexOf : CallC tX9_cancel tX5_indexOf 1 := ⟨by decide +kernel, by decide +kernel, by decide +kernel, by decide, by decide, qw_73, qw_648⟩
theorem cc_X9_cancel_X9_save : CallC tX9_cancel tX9_save 0 := ⟨by decide +kernel, by decide +kernel, by decide +kernel, by decide, by decide, qw_70, qw_577⟩
theorem cc_X9_cancel_X5_removeAt : CallC tX9_cancel tX5_removeAt 1 := ⟨by decide +kernel, by decide +kernel, by decide +kernel, by decide, by decide, qw_73, qw_652⟩
def kX9_cancel : Nat → WOp := cN 30 (cN 12 (cN 4 (cN 0 (cL 0 (o_aload 1 0)) (cN 1 (cL 1 (o_getf 4 7 0)) (cL 4 (o_getf 7 5 5)))) (cN 8 (cN 7 (cL 7 (o_iload 8 1)) (cL 8 (o_callV 11 4 1 tX5_indexOf 0 0))) (cN 11 (cL 11 (o_istore 12 2)) (cL 12 (o_iload 13 2))))) (cN 20 (cN 14 (cN 13 (cL 13 (o_push 14 (-1))) (cL 14 (o_icmp_ne 25 17))) (cN 17 (cL 17 (o_throw "java/lang/IndexOutOfBoundsException")) (cL 20 (o_dup 21)))) (cN 26 (cN 25 (cL 25 (o_aload 26 0)) (cL 26 (o_callV 29 7 0 tX9_save 0 0))) (cN 29 (cL 29 (o_aload 30 0)) (cL 30 (o_getf 33 7 0)))))) (cN 48 (cN 40 (cN 36 (cN 33 (cL 33 (o_getf 36 5 2)) (cL 36 (o_aload 37 0))) (cN 37 (cL 37 (o_getf 40 7 0)) (cL 40 (o_getf 43 5 5)))) (cN 46 (cN 43 (cL 43 (o_getf 46 4 6)) (cL 46 (o_iload 47 2))) (cN 47 (cL 47 (o_iald 48)) (cL 48 (o_isub 49))))) (cN 54 (cN 50 (cN 49 (cL 49 (o_istore 50 3)) (cL 50 (o_aload 51 0))) (cN 51 (cL 51 (o_getf 54 7 0)) (cL 54 (o_getf 57 5 5)))) (cN 58 (cN 57 (cL 57 (o_iload 58 2)) (cL 58 (o_callV 61 4 1 tX5_removeAt 0 0))) (cN 61 (cL 61 (o_iload 62 3)) (cL 62 (o_iret))))))
theorem sX9_cancel : ∀ pc, Snd tX9_cancel G1 pc (kX9_cancel pc) := s_N (s_N (s_N (s_N (s_L (s_aload_n dX9_cancel_0 rfl)) (s_N (s_L (s_getf ok_7 (k := 0) (by decide) dX9_cancel_1 qw_319)) (s_L (s_getf ok_5 (k := 5) (by decide) dX9_cancel_4 qw_249)))) (s_N (s_N (s_L (s_iload_n dX9_cancel_7 rfl)) (s_L (s_callV (d' := tX5_indexOf) (mc := 0) (ms := 0) ok_4 cc_X9_cancel_X5_indexOf qw_645 qw_646 qw_647 dX9_cancel_8))) (s_N (s_L (s_istore_n dX9_cancel_11 rfl (by decide))) (s_L (s_iload_n dX9_cancel_12 rfl))))) (s_N (s_N (s_N (s_L (s_iconst dX9_cancel_13 (by decide +kernel))) (s_L (s_o_icmp_ne dX9_cancel_14 (by decide)))) (s_N (s_L (s_throw (thr_X9_cancel_17) dX9_cancel_17 dX9_cancel_20 dX9_cancel_21 dX9_cancel_24)) (s_L (s_o_dup dX9_cancel_20)))) (s_N (s_N (s_L (s_aload_n dX9_cancel_25 rfl)) (s_L (s_callV (d' := tX9_save) (mc := 0) (ms := 0) ok_7 cc_X9_cancel_X9_save qw_574 qw_576 qw_16 dX9_cancel_26))) (s_N (s_L (s_aload_n dX9_cancel_29 rfl)) (s_L (s_getf ok_7 (k := 0) (by decide) dX9_cancel_30 qw_319)))))) (s_N (s_N (s_N (s_N (s_L (s_getf ok_5 (k := 2) (by decide) dX9_cancel_33 qw_243)) (s_L (s_aload_n dX9_cancel_36 rfl))) (s_N (s_L (s_getf ok_7 (k := 0) (by decide) dX9_cancel_37 qw_319)) (s_L (s_getf ok_5 (k := 5) (by decide) dX9_cancel_40 qw_249)))) (s_N (s_N (s_L (s_getf ok_4 (k := 6) (by decide) dX9_cancel_43 qw_166)) (s_L (s_iload_n dX9_cancel_46 rfl))) (s_N (s_L (s_iald dX9_cancel_47)) (s_L (s_o_isub dX9_cancel_48))))) (s_N (s_N (s_N (s_L (s_istore_n dX9_cancel_49 rfl (by decide))) (s_L (s_aload_n dX9_cancel_50 rfl))) (s_N (s_L (s_getf ok_7 (k := 0) (by decide) dX9_cancel_51 qw_319)) (s_L (s_getf ok_5 (k := 5) (by decide) dX9_cancel_54 qw_249)))) (s_N (s_N (s_L (s_iload_n dX9_cancel_57 rfl)) (s_L (s_callV (d' := tX5_removeAt) (mc := 0) (ms := 0) ok_4 cc_X9_cancel_X5_removeAt qw_649 qw_650 qw_651 dX9_cancel_58))) (s_N (s_L (s_iload_n dX9_cancel_61 rfl)) (s_L (s_iret rfl dX9_cancel_62))))))
/-! PlateArm.set -/
theorem dX9_set_0 : decode cX9_set 0 = .ok (.iload_n 1, 1) := by decide +kernel
theorem dX9_set_1 : decode cX9_set 1 = .ok (.iload_n 2, 1) := by decide +kernel
theorem dX9_set_2 : decode cX9_set 2 = .ok (.invokestatic 99, 3) := by decide +kernel
theorem dX9_set_5 : decode cX9_set 5 = .ok (.ifCond .ne 11, 3) := by decide +kernel
theorem dX9_set_8 : decode cX9_set 8 = .ok (.new 46, 3) := by decide +kernel
theorem dX9_set_11 : decode cX9_set 11 = .ok (.dup, 1) := by decide +kernel
theorem dX9_set_12 : decode cX9_set 12 = .ok (.invokespecial 48, 3) := by decide +kernel
theorem dX9_set_15 : decode cX9_set 15 = .ok (.athrow, 1) := by decide +kernel
theorem dX9_set_16 : decode cX9_set 16 = .ok (.aload_n 0, 1) := by decide +kernel
theorem dX9_set_17 : decode cX9_set 17 = .ok (.invokevirtual 49, 3) := by decide +kernel
theorem dX9_set_20 : decode cX9_set 20 = .ok (.aload_n 0, 1) := by decide +kernel
theorem dX9_set_21 : decode cX9_set 21 = .ok (.getfield 10, 3) := by decide +kernel
theorem dX9_set_24 : decode cX9_set 24 = .ok (.getfield 102, 3) := by decide +kernel
theorem dX9_set_27 : decode cX9_set 27 = .ok (.iload_n 1, 1) := by decide +kernel
theorem dX9_set_28 : decode cX9_set 28 = .ok (.iaload, 1) := by decide +kernel
theorem dX9_set_29 : decode cX9_set 29 = .ok (.istore_n 3, 1) := by decide +kernel
theorem dX9_set_30 : decode cX9_set 30 = .ok (.aload_n 0, 1) := by decide +kernel
theorem dX9_set_31 : decode cX9_set 31 = .ok (.getfield 10, 3) := by decide +kernel
theorem dX9_set_34 : decode cX9_set 34 = .ok (.getfield 102, 3) := by decide +kernel
theorem dX9_set_37 : decode cX9_set 37 = .ok (.iload_n 1, 1) := by decide +kernel
theorem dX9_set_38 : decode cX9_set 38 = .ok (.iload_n 2, 1) := by decide +kernel
theorem dX9_set_39 : decode cX9_set 39 = .ok (.iastore, 1) := by decide +kernel
theorem dX9_set_40 : decode cX9_set 40 = .ok (.iload_n 3, 1) := by decide +kernel
theorem dX9_set_41 : decode cX9_set 41 = .ok (.ireturn, 1) := by decide +kernel
theorem thr_X9_set_8 : ThrOk tX9_set 46 48 "java/lang/IllegalArgumentException" := ⟨thf_48.1, qw_690, qw_84, thf_48.2.1, thf_48.2.2.1, thf_48.2.2.2.1, thf_48.2.2.2.2, by decide, by decide⟩
theorem cc_X9_set_X9_settingFits : CallC tX9_set tX9_settingFits 2 := ⟨by decide +kernel, by decide +kernel, by decide +kernel, by decide, by decide, qw_70, qw_660⟩
theorem cc_X9_set_X9_save : CallC tX9_set tX9_save 0 := ⟨by decide +kernel, by decide +kernel, by decide +kernel, by decide, by decide, qw_70, qw_577⟩
def kX9_set : Nat → WOp := cN 24 (cN 8 (cN 1 (cN 0 (cL 0 (o_iload 1 1)) (cL 1 (o_iload 2 2))) (cN 2 (cL 2 (o_callS 5 2 tX9_settingFits 0 0)) (cN 5 (cL 5 (o_if_ne 16 8)) (cL 8 (o_throw "java/lang/IllegalArgumentException"))))) (cN 17 (cN 11 (cL 11 (o_dup 12)) (cN 16 (cL 16 (o_aload 17 0)) (cL 17 (o_callV 20 7 0 tX9_save 0 0)))) (cN 20 (cL 20 (o_aload 21 0)) (cN 21 (cL 21 (o_getf 24 7 0)) (cL 24 (o_getf 27 5 3)))))) (cN 31 (cN 28 (cN 27 (cL 27 (o_iload 28 1)) (cL 28 (o_iald 29))) (cN 29 (cL 29 (o_istore 30 3)) (cN 30 (cL 30 (o_aload 31 0)) (cL 31 (o_getf 34 7 0))))) (cN 38 (cN 34 (cL 34 (o_getf 37 5 3)) (cN 37 (cL 37 (o_iload 38 1)) (cL 38 (o_iload 39 2)))) (cN 39 (cL 39 (o_iast 40)) (cN 40 (cL 40 (o_iload 41 3)) (cL 41 (o_iret))))))
theorem sX9_set : ∀ pc, Snd tX9_set G1 pc (kX9_set pc) := s_N (s_N (s_N (s_N (s_L (s_iload_n dX9_set_0 rfl)) (s_L (s_iload_n dX9_set_1 rfl))) (s_N (s_L (s_callS (d' := tX9_settingFits) (mc := 0) (ms := 0) cc_X9_set_X9_settingFits qw_658 qw_659 dX9_set_2)) (s_N (s_L (s_o_if_ne dX9_set_5 (by decide))) (s_L (s_throw (thr_X9_set_8) dX9_set_8 dX9_set_11 dX9_set_12 dX9_set_15))))) (s_N (s_N (s_L (s_o_dup dX9_set_11)) (s_N (s_L (s_aload_n dX9_set_16 rfl)) (s_L (s_callV (d' := tX9_save) (mc := 0) (ms := 0) ok_7 cc_X9_set_X9_save qw_574 qw_576 qw_16 dX9_set_17)))) (s_N (s_L (s_aload_n dX9_set_20 rfl)) (s_N (s_L (s_getf ok_7 (k := 0) (by decide) dX9_set_21 qw_319)) (s_L (s_getf ok_5 (k := 3) (by decide) dX9_set_24 qw_245)))))) (s_N (s_N (s_N (s_L (s_iload_n dX9_set_27 rfl)) (s_L (s_iald dX9_set_28))) (s_N (s_L (s_istore_n dX9_set_29 rfl (by decide))) (s_N (s_L (s_aload_n dX9_set_30 rfl)) (s_L (s_getf ok_7 (k := 0) (by decide) dX9_set_31 qw_319))))) (s_N (s_N (s_L (s_getf ok_5 (k := 3) (by decide) dX9_set_34 qw_245)) (s_N (s_L (s_iload_n dX9_set_37 rfl)) (s_L (s_iload_n dX9_set_38 rfl)))) (s_N (s_L (s_iast dX9_set_39)) (s_N (s_L (s_iload_n dX9_set_40 rfl)) (s_L (s_iret rfl dX9_set_41))))))
/-! PlateArm.pass -/
theorem dX9_pass_0 : decode cX9_pass 0 = .ok (.iload_n 1, 1) := by decide +kernel
theorem dX9_pass_1 : decode cX9_pass 1 = .ok (.invokestatic 105, 3) := by decide +kernel
theorem dX9_pass_4 : decode cX9_pass 4 = .ok (.ifCond .ne 11, 3) := by decide +kernel
theorem dX9_pass_7 : decode cX9_pass 7 = .ok (.new 46, 3) := by decide +kernel
theorem dX9_pass_10 : decode cX9_pass 10 = .ok (.dup, 1) := by decide +kernel
theorem dX9_pass_11 : decode cX9_pass 11 = .ok (.invokespecial 48, 3) := by decide +kernel
theorem dX9_pass_14 : decode cX9_pass 14 = .ok (.athrow, 1) := by decide +kernel
theorem dX9_pass_15 : decode cX9_pass 15 = .ok (.aload_n 0, 1) := by decide +kernel
theorem dX9_pass_16 : decode cX9_pass 16 = .ok (.iload_n 1, 1) := by decide +kernel
theorem dX9_pass_17 : decode cX9_pass 17 = .ok (.invokevirtual 109, 3) := by decide +kernel
theorem dX9_pass_20 : decode cX9_pass 20 = .ok (.ifCond .ne 11, 3) := by decide +kernel
theorem dX9_pass_23 : decode cX9_pass 23 = .ok (.new 74, 3) := by decide +kernel
theorem dX9_pass_26 : decode cX9_pass 26 = .ok (.dup, 1) := by decide +kernel
theorem dX9_pass_27 : decode cX9_pass 27 = .ok (.invokespecial 76, 3) := by decide +kernel
theorem dX9_pass_30 : decode cX9_pass 30 = .ok (.athrow, 1) := by decide +kernel
theorem dX9_pass_31 : decode cX9_pass 31 = .ok (.aload_n 0, 1) := by decide +kernel
theorem dX9_pass_32 : decode cX9_pass 32 = .ok (.invokevirtual 49, 3) := by decide +kernel
theorem dX9_pass_35 : decode cX9_pass 35 = .ok (.aload_n 0, 1) := by decide +kernel
theorem dX9_pass_36 : decode cX9_pass 36 = .ok (.getfield 10, 3) := by decide +kernel
theorem dX9_pass_39 : decode cX9_pass 39 = .ok (.getfield 112, 3) := by decide +kernel
theorem dX9_pass_42 : decode cX9_pass 42 = .ok (.getfield 116, 3) := by decide +kernel
theorem dX9_pass_45 : decode cX9_pass 45 = .ok (.istore_n 2, 1) := by decide +kernel
theorem dX9_pass_46 : decode cX9_pass 46 = .ok (.aload_n 0, 1) := by decide +kernel
theorem dX9_pass_47 : decode cX9_pass 47 = .ok (.getfield 10, 3) := by decide +kernel
theorem dX9_pass_50 : decode cX9_pass 50 = .ok (.iload_n 1, 1) := by decide +kernel
theorem dX9_pass_51 : decode cX9_pass 51 = .ok (.invokevirtual 121, 3) := by decide +kernel
theorem dX9_pass_54 : decode cX9_pass 54 = .ok (.aload_n 0, 1) := by decide +kernel
theorem dX9_pass_55 : decode cX9_pass 55 = .ok (.getfield 10, 3) := by decide +kernel
theorem dX9_pass_58 : decode cX9_pass 58 = .ok (.getfield 112, 3) := by decide +kernel
theorem dX9_pass_61 : decode cX9_pass 61 = .ok (.getfield 116, 3) := by decide +kernel
theorem dX9_pass_64 : decode cX9_pass 64 = .ok (.iload_n 2, 1) := by decide +kernel
theorem dX9_pass_65 : decode cX9_pass 65 = .ok (.isub, 1) := by decide +kernel
theorem dX9_pass_66 : decode cX9_pass 66 = .ok (.ireturn, 1) := by decide +kernel
theorem thr_X9_pass_7 : ThrOk tX9_pass 46 48 "java/lang/IllegalArgumentException" := ⟨thf_48.1, qw_690, qw_84, thf_48.2.1, thf_48.2.2.1, thf_48.2.2.2.1, thf_48.2.2.2.2, by decide, by decide⟩
theorem thr_X9_pass_23 : ThrOk tX9_pass 74 76 "java/lang/IllegalStateException" := ⟨thf_76.1, qw_816, qw_86, thf_76.2.1, thf_76.2.2.1, thf_76.2.2.2.1, thf_76.2.2.2.2, by decide, by decide⟩
theorem cc_X9_pass_X9_ticksFit : CallC tX9_pass tX9_ticksFit 1 := ⟨by decide +kernel, by decide +kernel, by decide +kernel, by decide, by decide, qw_70, qw_671⟩
theorem cc_X9_pass_X9_timeIsLeft : CallC tX9_pass tX9_timeIsLeft 1 := ⟨by decide +kernel, by decide +kernel, by decide +kernel, by decide, by decide, qw_70, qw_675⟩
theorem cc_X9_pass_X9_save : CallC tX9_pass tX9_save 0 := ⟨by decide +kernel, by decide +kernel, by decide +kernel, by decide, by decide, qw_70, qw_577⟩
theorem cc_X9_pass_X6_passTicks : CallC tX9_pass tX6_passTicks 1 := ⟨by decide +kernel, by decide +kernel, by decide +kernel, by decide, by decide, qw_71, qw_679⟩
def kX9_pass : Nat → WOp := cN 35 (cN 16 (cN 4 (cN 0 (cL 0 (o_iload 1 1)) (cN 1 (cL 1 (o_callS 4 1 tX9_ticksFit 0 0)) (cL 4 (o_if_ne 15 7)))) (cN 10 (cN 7 (cL 7 (o_throw "java/lang/IllegalArgumentException")) (cL 10 (o_dup 11))) (cN 15 (cL 15 (o_aload 16 0)) (cL 16 (o_iload 17 1))))) (cN 23 (cN 17 (cL 17 (o_callV 20 7 1 tX9_timeIsLeft 0 0)) (cN 20 (cL 20 (o_if_ne 31 23)) (cL 23 (o_throw "java/lang/IllegalStateException")))) (cN 31 (cN 26 (cL 26 (o_dup 27)) (cL 31 (o_aload 32 0))) (cN 32 (cL 32 (o_callV 35 7 0 tX9_save 0 0)) (cL 35 (o_aload 36 0)))))) (cN 50 (cN 42 (cN 36 (cL 36 (o_getf 39 7 0)) (cN 39 (cL 39 (o_getf 42 5 6)) (cL 42 (o_getf 45 3 0)))) (cN 46 (cN 45 (cL 45 (o_istore 46 2)) (cL 46 (o_aload 47 0))) (cN 47 (cL 47 (o_getf 50 7 0)) (cL 50 (o_iload 51 1))))) (cN 58 (cN 54 (cN 51 (cL 51 (o_callV 54 5 1 tX6_passTicks 0 0)) (cL 54 (o_aload 55 0))) (cN 55 (cL 55 (o_getf 58 7 0)) (cL 58 (o_getf 61 5 6)))) (cN 64 (cN 61 (cL 61 (o_getf 64 3 0)) (cL 64 (o_iload 65 2))) (cN 65 (cL 65 (o_isub 66)) (cL 66 (o_iret))))))
theorem sX9_pass : ∀ pc, Snd tX9_pass G1 pc (kX9_pass pc) := s_N (s_N (s_N (s_N (s_L (s_iload_n dX9_pass_0 rfl)) (s_N (s_L (s_callS (d' := tX9_ticksFit) (mc := 0) (ms := 0) cc_X9_pass_X9_ticksFit qw_669 qw_670 dX9_pass_1)) (s_L (s_o_if_ne dX9_pass_4 (by decide))))) (s_N (s_N (s_L (s_throw (thr_X9_pass_7) dX9_pass_7 dX9_pass_10 dX9_pass_11 dX9_pass_14)) (s_L (s_o_dup dX9_pass_10))) (s_N (s_L (s_aload_n dX9_pass_15 rfl)) (s_L (s_iload_n dX9_pass_16 rfl))))) (s_N (s_N (s_L (s_callV (d' := tX9_timeIsLeft) (mc := 0) (ms := 0) ok_7 cc_X9_pass_X9_timeIsLeft qw_672 qw_674 qw_25 dX9_pass_17)) (s_N (s_L (s_o_if_ne dX9_pass_20 (by decide))) (s_L (s_throw (thr_X9_pass_23) dX9_pass_23 dX9_pass_26 dX9_pass_27 dX9_pass_30)))) (s_N (s_N (s_L (s_o_dup dX9_pass_26)) (s_L (s_aload_n dX9_pass_31 rfl))) (s_N (s_L (s_callV (d' := tX9_save) (mc := 0) (ms := 0) ok_7 cc_X9_pass_X9_save qw_574 qw_576 qw_16 dX9_pass_32)) (s_L (s_aload_n dX9_pass_35 rfl)))))) (s_N (s_N (s_N (s_L (s_getf ok_7 (k := 0) (by decide) dX9_pass_36 qw_319)) (s_N (s_L (s_getf ok_5 (k := 6) (by decide) dX9_pass_39 qw_251)) (s_L (s_getf ok_3 (k := 0) (by decide) dX9_pass_42 qw_189)))) (s_N (s_N (s_L (s_istore_n dX9_pass_45 rfl (by decide))) (s_L (s_aload_n dX9_pass_46 rfl))) (s_N (s_L (s_getf ok_7 (k := 0) (by decide) dX9_pass_47 qw_319)) (s_L (s_iload_n dX9_pass_50 rfl))))) (s_N (s_N (s_N (s_L (s_callV (d' := tX6_passTicks) (mc := 0) (ms := 0) ok_5 cc_X9_pass_X6_passTicks qw_676 qw_677 qw_678 dX9_pass_51)) (s_L (s_aload_n dX9_pass_54 rfl))) (s_N (s_L (s_getf ok_7 (k := 0) (by decide) dX9_pass_55 qw_319)) (s_L (s_getf ok_5 (k := 6) (by decide) dX9_pass_58 qw_251)))) (s_N (s_N (s_L (s_getf ok_3 (k := 0) (by decide) dX9_pass_61 qw_189)) (s_L (s_iload_n dX9_pass_64 rfl))) (s_N (s_L (s_o_isub dX9_pass_65)) (s_L (s_iret rfl dX9_pass_66))))))
/-! PlateArm.finish -/
theorem dX9_finish_0 : decode cX9_finish 0 = .ok (.aload_n 0, 1) := by decide +kernel
theorem dX9_finish_1 : decode cX9_finish 1 = .ok (.getfield 16, 3) := by decide +kernel
theorem dX9_finish_4 : decode cX9_finish 4 = .ok (.aload_n 0, 1) := by decide +kernel
theorem dX9_finish_5 : decode cX9_finish 5 = .ok (.getfield 10, 3) := by decide +kernel
theorem dX9_finish_8 : decode cX9_finish 8 = .ok (.invokevirtual 124, 3) := by decide +kernel
theorem dX9_finish_11 : decode cX9_finish 11 = .ok (.aload_n 0, 1) := by decide +kernel
theorem dX9_finish_12 : decode cX9_finish 12 = .ok (.getfield 16, 3) := by decide +kernel
theorem dX9_finish_15 : decode cX9_finish 15 = .ok (.invokevirtual 128, 3) := by decide +kernel
theorem dX9_finish_18 : decode cX9_finish 18 = .ok (.istore_n 1, 1) := by decide +kernel
theorem dX9_finish_19 : decode cX9_finish 19 = .ok (.aload_n 0, 1) := by decide +kernel
theorem dX9_finish_20 : decode cX9_finish 20 = .ok (.iload_n 1, 1) := by decide +kernel
theorem dX9_finish_21 : decode cX9_finish 21 = .ok (.invokevirtual 109, 3) := by decide +kernel
theorem dX9_finish_24 : decode cX9_finish 24 = .ok (.ifCond .ne 11, 3) := by decide +kernel
theorem dX9_finish_27 : decode cX9_finish 27 = .ok (.new 74, 3) := by decide +kernel
theorem dX9_finish_30 : decode cX9_finish 30 = .ok (.dup, 1) := by decide +kernel
theorem dX9_finish_31 : decode cX9_finish 31 = .ok (.invokespecial 76, 3) := by decide +kernel
theorem dX9_finish_34 : decode cX9_finish 34 = .ok (.athrow, 1) := by decide +kernel
theorem dX9_finish_35 : decode cX9_finish 35 = .ok (.aload_n 0, 1) := by decide +kernel
theorem dX9_finish_36 : decode cX9_finish 36 = .ok (.invokevirtual 49, 3) := by decide +kernel
theorem dX9_finish_39 : decode cX9_finish 39 = .ok (.aload_n 0, 1) := by decide +kernel
theorem dX9_finish_40 : decode cX9_finish 40 = .ok (.getfield 10, 3) := by decide +kernel
theorem dX9_finish_43 : decode cX9_finish 43 = .ok (.aload_n 0, 1) := by decide +kernel
theorem dX9_finish_44 : decode cX9_finish 44 = .ok (.getfield 16, 3) := by decide +kernel
theorem dX9_finish_47 : decode cX9_finish 47 = .ok (.invokevirtual 124, 3) := by decide +kernel
theorem dX9_finish_50 : decode cX9_finish 50 = .ok (.iload_n 1, 1) := by decide +kernel
theorem dX9_finish_51 : decode cX9_finish 51 = .ok (.ireturn, 1) := by decide +kernel
theorem thr_X9_finish_27 : ThrOk tX9_finish 74 76 "java/lang/IllegalStateException" := ⟨thf_76.1, qw_816, qw_86, thf_76.2.1, thf_76.2.2.1, thf_76.2.2.2.1, thf_76.2.2.2.2, by decide, by decide⟩
theorem cc_X9_finish_X6_copyFrom : CallC tX9_finish tX6_copyFrom 1 := ⟨by decide +kernel, by decide +kernel, by decide +kernel, by decide, by decide, qw_71, qw_356⟩
theorem cc_X9_finish_X6_passUntilEmpty : CallC tX9_finish tX6_passUntilEmpty 0 := ⟨by decide +kernel, by decide +kernel, by decide +kernel, by decide, by decide, qw_71, qw_381⟩
theorem cc_X9_finish_X9_timeIsLeft : CallC tX9_finish tX9_timeIsLeft 1 := ⟨by decide +kernel, by decide +kernel, by decide +kernel, by decide, by decide, qw_70, qw_675⟩
theorem cc_X9_finish_X9_save : CallC tX9_finish tX9_save 0 := ⟨by decide +kernel, by decide +kernel, by decide +kernel, by decide, by decide, qw_70, qw_577⟩
def kX9_finish : Nat → WOp := cN 21 (cN 11 (cN 4 (cN 0 (cL 0 (o_aload 1 0)) (cN 1 (cL 1 (o_getf 4 7 1)) (cL 4 (o_aload 5 0)))) (cN 5 (cL 5 (o_getf 8 7 0)) (cN 8 (cL 8 (o_callV 11 5 1 tX6_copyFrom 0 0)) (cL 11 (o_aload 12 0))))) (cN 18 (cN 12 (cL 12 (o_getf 15 7 1)) (cN 15 (cL 15 (o_callV 18 5 0 tX6_passUntilEmpty 0 0)) (cL 18 (o_istore 19 1)))) (cN 19 (cL 19 (o_aload 20 0)) (cN 20 (cL 20 (o_iload 21 1)) (cL 21 (o_callV 24 7 1 tX9_timeIsLeft 0 0)))))) (cN 39 (cN 30 (cN 24 (cL 24 (o_if_ne 35 27)) (cN 27 (cL 27 (o_throw "java/lang/IllegalStateException")) (cL 30 (o_dup 31)))) (cN 35 (cL 35 (o_aload 36 0)) (cN 36 (cL 36 (o_callV 39 7 0 tX9_save 0 0)) (cL 39 (o_aload 40 0))))) (cN 44 (cN 40 (cL 40 (o_getf 43 7 0)) (cN 43 (cL 43 (o_aload 44 0)) (cL 44 (o_getf 47 7 1)))) (cN 47 (cL 47 (o_callV 50 5 1 tX6_copyFrom 0 0)) (cN 50 (cL 50 (o_iload 51 1)) (cL 51 (o_iret))))))
theorem sX9_finish : ∀ pc, Snd tX9_finish G1 pc (kX9_finish pc) := s_N (s_N (s_N (s_N (s_L (s_aload_n dX9_finish_0 rfl)) (s_N (s_L (s_getf ok_7 (k := 1) (by decide) dX9_finish_1 qw_320)) (s_L (s_aload_n dX9_finish_4 rfl)))) (s_N (s_L (s_getf ok_7 (k := 0) (by decide) dX9_finish_5 qw_319)) (s_N (s_L (s_callV (d' := tX6_copyFrom) (mc := 0) (ms := 0) ok_5 cc_X9_finish_X6_copyFrom qw_353 qw_354 qw_355 dX9_finish_8)) (s_L (s_aload_n dX9_finish_11 rfl))))) (s_N (s_N (s_L (s_getf ok_7 (k := 1) (by decide) dX9_finish_12 qw_320)) (s_N (s_L (s_callV (d' := tX6_passUntilEmpty) (mc := 0) (ms := 0) ok_5 cc_X9_finish_X6_passUntilEmpty qw_378 qw_379 qw_380 dX9_finish_15)) (s_L (s_istore_n dX9_finish_18 rfl (by decide))))) (s_N (s_L (s_aload_n dX9_finish_19 rfl)) (s_N (s_L (s_iload_n dX9_finish_20 rfl)) (s_L (s_callV (d' := tX9_timeIsLeft) (mc := 0) (ms := 0) ok_7 cc_X9_finish_X9_timeIsLeft qw_672 qw_674 qw_25 dX9_finish_21)))))) (s_N (s_N (s_N (s_L (s_o_if_ne dX9_finish_24 (by decide))) (s_N (s_L (s_throw (thr_X9_finish_27) dX9_finish_27 dX9_finish_30 dX9_finish_31 dX9_finish_34)) (s_L (s_o_dup dX9_finish_30)))) (s_N (s_L (s_aload_n dX9_finish_35 rfl)) (s_N (s_L (s_callV (d' := tX9_save) (mc := 0) (ms := 0) ok_7 cc_X9_finish_X9_save qw_574 qw_576 qw_16 dX9_finish_36)) (s_L (s_aload_n dX9_finish_39 rfl))))) (s_N (s_N (s_L (s_getf ok_7 (k := 0) (by decide) dX9_finish_40 qw_319)) (s_N (s_L (s_aload_n dX9_finish_43 rfl)) (s_L (s_getf ok_7 (k := 1) (by decide) dX9_finish_44 qw_320)))) (s_N (s_L (s_callV (d' := tX6_copyFrom) (mc := 0) (ms := 0) ok_5 cc_X9_finish_X6_copyFrom qw_353 qw_354 qw_355 dX9_finish_47)) (s_N (s_L (s_iload_n dX9_finish_50 rfl)) (s_L (s_iret rfl dX9_finish_51))))))
/-! PlateArm.requestOf -/
theorem dX9_requestOf_0 : decode cX9_requestOf 0 = .ok (.aload_n 0, 1) := by decide +kernel
theorem dX9_requestOf_1 : decode cX9_requestOf 1 = .ok (.getfield 10, 3) := by decide +kernel
theorem dX9_requestOf_4 : decode cX9_requestOf 4 = .ok (.getfield 52, 3) := by decide +kernel
theorem dX9_requestOf_7 : decode cX9_requestOf 7 = .ok (.iload_n 1, 1) := by decide +kernel
theorem dX9_requestOf_8 : decode cX9_requestOf 8 = .ok (.invokevirtual 84, 3) := by decide +kernel
theorem dX9_requestOf_11 : decode cX9_requestOf 11 = .ok (.istore_n 3, 1) := by decide +kernel
theorem dX9_requestOf_12 : decode cX9_requestOf 12 = .ok (.iload_n 3, 1) := by decide +kernel
theorem dX9_requestOf_13 : decode cX9_requestOf 13 = .ok (.iconst (-1), 1) := by decide +kernel
theorem dX9_requestOf_14 : decode cX9_requestOf 14 = .ok (.if_icmp .ne 11, 3) := by decide +kernel
theorem dX9_requestOf_17 : decode cX9_requestOf 17 = .ok (.new 88, 3) := by decide +kernel
theorem dX9_requestOf_20 : decode cX9_requestOf 20 = .ok (.dup, 1) := by decide +kernel
theorem dX9_requestOf_21 : decode cX9_requestOf 21 = .ok (.invokespecial 90, 3) := by decide +kernel
theorem dX9_requestOf_24 : decode cX9_requestOf 24 = .ok (.athrow, 1) := by decide +kernel
theorem dX9_requestOf_25 : decode cX9_requestOf 25 = .ok (.iload_n 2, 1) := by decide +kernel
theorem dX9_requestOf_26 : decode cX9_requestOf 26 = .ok (.ifCond .lt 9, 3) := by decide +kernel
theorem dX9_requestOf_29 : decode cX9_requestOf 29 = .ok (.iload_n 2, 1) := by decide +kernel
theorem dX9_requestOf_30 : decode cX9_requestOf 30 = .ok (.bipush 6, 2) := by decide +kernel
theorem dX9_requestOf_32 : decode cX9_requestOf 32 = .ok (.if_icmp .lt 11, 3) := by decide +kernel
theorem dX9_requestOf_35 : decode cX9_requestOf 35 = .ok (.new 46, 3) := by decide +kernel
theorem dX9_requestOf_38 : decode cX9_requestOf 38 = .ok (.dup, 1) := by decide +kernel
theorem dX9_requestOf_39 : decode cX9_requestOf 39 = .ok (.invokespecial 48, 3) := by decide +kernel
theorem dX9_requestOf_42 : decode cX9_requestOf 42 = .ok (.athrow, 1) := by decide +kernel
theorem dX9_requestOf_43 : decode cX9_requestOf 43 = .ok (.aload_n 0, 1) := by decide +kernel
theorem dX9_requestOf_44 : decode cX9_requestOf 44 = .ok (.iload_n 3, 1) := by decide +kernel
theorem dX9_requestOf_45 : decode cX9_requestOf 45 = .ok (.iload_n 2, 1) := by decide +kernel
theorem dX9_requestOf_46 : decode cX9_requestOf 46 = .ok (.invokevirtual 132, 3) := by decide +kernel
theorem dX9_requestOf_49 : decode cX9_requestOf 49 = .ok (.ireturn, 1) := by decide +kernel
theorem thr_X9_requestOf_17 : ThrOk tX9_requestOf 88 90 "java/lang/IndexOutOfBoundsException" := ⟨thf_90.1, qw_839, qw_87, thf_90.2.1, thf_90.2.2.1, thf_90.2.2.2.1, thf_90.2.2.2.2, by decide, by decide⟩
theorem thr_X9_requestOf_35 : ThrOk tX9_requestOf 46 48 "java/lang/IllegalArgumentException" := ⟨thf_48.1, qw_690, qw_84, thf_48.2.1, thf_48.2.2.1, thf_48.2.2.2.1, thf_48.2.2.2.2, by decide, by decide⟩
theorem cc_X9_requestOf_X5_indexOf : CallC tX9_requestOf tX5_indexOf 1 := ⟨by decide +kernel, by decide +kernel, by decide +kernel, by decide, by decide, qw_73, qw_648⟩
theorem cc_X9_requestOf_X9_requestValue : CallC tX9_requestOf tX9_requestValue 2 := ⟨by decide +kernel, by decide +kernel, by decide +kernel, by decide, by decide, qw_70, qw_765⟩
def kX9_requestOf : Nat → WOp := cN 20 (cN 8 (cN 1 (cN 0 (cL 0 (o_aload 1 0)) (cL 1 (o_getf 4 7 0))) (cN 4 (cL 4 (o_getf 7 5 5)) (cN 7 (cL 7 (o_iload 8 1)) (cL 8 (o_callV 11 4 1 tX5_indexOf 0 0))))) (cN 13 (cN 11 (cL 11 (o_istore 12 3)) (cN 12 (cL 12 (o_iload 13 3)) (cL 13 (o_push 14 (-1))))) (cN 14 (cL 14 (o_icmp_ne 25 17)) (cN 17 (cL 17 (o_throw "java/lang/IndexOutOfBoundsException")) (cL 20 (o_dup 21)))))) (cN 35 (cN 29 (cN 25 (cL 25 (o_iload 26 2)) (cN 26 (cL 26 (o_if_lt 35 29)) (cL 29 (o_iload 30 2)))) (cN 30 (cL 30 (o_push 32 6)) (cN 32 (cL 32 (o_icmp_lt 43 35)) (cL 35 (o_throw "java/lang/IllegalArgumentException"))))) (cN 44 (cN 38 (cL 38 (o_dup 39)) (cN 43 (cL 43 (o_aload 44 0)) (cL 44 (o_iload 45 3)))) (cN 45 (cL 45 (o_iload 46 2)) (cN 46 (cL 46 (o_callV 49 7 2 tX9_requestValue 0 0)) (cL 49 (o_iret))))))
theorem sX9_requestOf : ∀ pc, Snd tX9_requestOf G1 pc (kX9_requestOf pc) := s_N (s_N (s_N (s_N (s_L (s_aload_n dX9_requestOf_0 rfl)) (s_L (s_getf ok_7 (k := 0) (by decide) dX9_requestOf_1 qw_319))) (s_N (s_L (s_getf ok_5 (k := 5) (by decide) dX9_requestOf_4 qw_249)) (s_N (s_L (s_iload_n dX9_requestOf_7 rfl)) (s_L (s_callV (d' := tX5_indexOf) (mc := 0) (ms := 0) ok_4 cc_X9_requestOf_X5_indexOf qw_645 qw_646 qw_647 dX9_requestOf_8))))) (s_N (s_N (s_L (s_istore_n dX9_requestOf_11 rfl (by decide))) (s_N (s_L (s_iload_n dX9_requestOf_12 rfl)) (s_L (s_iconst dX9_requestOf_13 (by decide +kernel))))) (s_N (s_L (s_o_icmp_ne dX9_requestOf_14 (by decide))) (s_N (s_L (s_throw (thr_X9_requestOf_17) dX9_requestOf_17 dX9_requestOf_20 dX9_requestOf_21 dX9_requestOf_24)) (s_L (s_o_dup dX9_requestOf_20)))))) (s_N (s_N (s_N (s_L (s_iload_n dX9_requestOf_25 rfl)) (s_N (s_L (s_o_if_lt dX9_requestOf_26 (by decide))) (s_L (s_iload_n dX9_requestOf_29 rfl)))) (s_N (s_L (s_bipush dX9_requestOf_30 (by decide +kernel))) (s_N (s_L (s_o_icmp_lt dX9_requestOf_32 (by decide))) (s_L (s_throw (thr_X9_requestOf_35) dX9_requestOf_35 dX9_requestOf_38 dX9_requestOf_39 dX9_requestOf_42))))) (s_N (s_N (s_L (s_o_dup dX9_requestOf_38)) (s_N (s_L (s_aload_n dX9_requestOf_43 rfl)) (s_L (s_iload_n dX9_requestOf_44 rfl)))) (s_N (s_L (s_iload_n dX9_requestOf_45 rfl)) (s_N (s_L (s_callV (d' := tX9_requestValue) (mc := 0) (ms := 0) ok_7 cc_X9_requestOf_X9_requestValue qw_762 qw_764 qw_28 dX9_requestOf_46)) (s_L (s_iret rfl dX9_requestOf_49))))))
/-! PlateArm.requestAt -/
theorem dX9_requestAt_0 : decode cX9_requestAt 0 = .ok (.iload_n 1, 1) := by decide +kernel
theorem dX9_requestAt_1 : decode cX9_requestAt 1 = .ok (.ifCond .ge 11, 3) := by decide +kernel
theorem dX9_requestAt_4 : decode cX9_requestAt 4 = .ok (.new 46, 3) := by decide +kernel
theorem dX9_requestAt_7 : decode cX9_requestAt 7 = .ok (.dup, 1) := by decide +kernel
theorem dX9_requestAt_8 : decode cX9_requestAt 8 = .ok (.invokespecial 48, 3) := by decide +kernel
theorem dX9_requestAt_11 : decode cX9_requestAt 11 = .ok (.athrow, 1) := by decide +kernel
theorem dX9_requestAt_12 : decode cX9_requestAt 12 = .ok (.iload_n 1, 1) := by decide +kernel
theorem dX9_requestAt_13 : decode cX9_requestAt 13 = .ok (.aload_n 0, 1) := by decide +kernel
theorem dX9_requestAt_14 : decode cX9_requestAt 14 = .ok (.getfield 10, 3) := by decide +kernel
theorem dX9_requestAt_17 : decode cX9_requestAt 17 = .ok (.getfield 52, 3) := by decide +kernel
theorem dX9_requestAt_20 : decode cX9_requestAt 20 = .ok (.getfield 56, 3) := by decide +kernel
theorem dX9_requestAt_23 : decode cX9_requestAt 23 = .ok (.if_icmp .ge 18, 3) := by decide +kernel
theorem dX9_requestAt_26 : decode cX9_requestAt 26 = .ok (.aload_n 0, 1) := by decide +kernel
theorem dX9_requestAt_27 : decode cX9_requestAt 27 = .ok (.getfield 10, 3) := by decide +kernel
theorem dX9_requestAt_30 : decode cX9_requestAt 30 = .ok (.getfield 52, 3) := by decide +kernel
theorem dX9_requestAt_33 : decode cX9_requestAt 33 = .ok (.getfield 136, 3) := by decide +kernel
theorem dX9_requestAt_36 : decode cX9_requestAt 36 = .ok (.iload_n 1, 1) := by decide +kernel
theorem dX9_requestAt_37 : decode cX9_requestAt 37 = .ok (.iaload, 1) := by decide +kernel
theorem dX9_requestAt_38 : decode cX9_requestAt 38 = .ok (.goto 4, 3) := by decide +kernel
theorem dX9_requestAt_41 : decode cX9_requestAt 41 = .ok (.iconst (-1), 1) := by decide +kernel
theorem dX9_requestAt_42 : decode cX9_requestAt 42 = .ok (.ireturn, 1) := by decide +kernel
theorem thr_X9_requestAt_4 : ThrOk tX9_requestAt 46 48 "java/lang/IllegalArgumentException" := ⟨thf_48.1, qw_690, qw_84, thf_48.2.1, thf_48.2.2.1, thf_48.2.2.2.1, thf_48.2.2.2.2, by decide, by decide⟩
def kX9_requestAt : Nat → WOp := cN 20 (cN 7 (cN 1 (cN 0 (cL 0 (o_iload 1 1)) (cL 1 (o_if_ge 12 4))) (cN 4 (cL 4 (o_throw "java/lang/IllegalArgumentException")) (cL 7 (o_dup 8)))) (cN 13 (cN 12 (cL 12 (o_iload 13 1)) (cL 13 (o_aload 14 0))) (cN 14 (cL 14 (o_getf 17 7 0)) (cN 17 (cL 17 (o_getf 20 5 5)) (cL 20 (o_getf 23 4 0)))))) (cN 33 (cN 26 (cN 23 (cL 23 (o_icmp_ge 41 26)) (cL 26 (o_aload 27 0))) (cN 27 (cL 27 (o_getf 30 7 0)) (cN 30 (cL 30 (o_getf 33 5 5)) (cL 33 (o_getf 36 4 2))))) (cN 37 (cN 36 (cL 36 (o_iload 37 1)) (cL 37 (o_iald 38))) (cN 38 (cL 38 (o_goto 42)) (cN 41 (cL 41 (o_push 42 (-1))) (cL 42 (o_iret))))))
theorem sX9_requestAt : ∀ pc, Snd tX9_requestAt G1 pc (kX9_requestAt pc) := s_N (s_N (s_N (s_N (s_L (s_iload_n dX9_requestAt_0 rfl)) (s_L (s_o_if_ge dX9_requestAt_1 (by decide)))) (s_N (s_L (s_throw (thr_X9_requestAt_4) dX9_requestAt_4 dX9_requestAt_7 dX9_requestAt_8 dX9_requestAt_11)) (s_L (s_o_dup dX9_requestAt_7)))) (s_N (s_N (s_L (s_iload_n dX9_requestAt_12 rfl)) (s_L (s_aload_n dX9_requestAt_13 rfl))) (s_N (s_L (s_getf ok_7 (k := 0) (by decide) dX9_requestAt_14 qw_319)) (s_N (s_L (s_getf ok_5 (k := 5) (by decide) dX9_requestAt_17 qw_249)) (s_L (s_getf ok_4 (k := 0) (by decide) dX9_requestAt_20 qw_149)))))) (s_N (s_N (s_N (s_L (s_o_icmp_ge dX9_requestAt_23 (by decide))) (s_L (s_aload_n dX9_requestAt_26 rfl))) (s_N (s_L (s_getf ok_7 (k := 0) (by decide) dX9_requestAt_27 qw_319)) (s_N (s_L (s_getf ok_5 (k := 5) (by decide) dX9_requestAt_30 qw_249)) (s_L (s_getf ok_4 (k := 2) (by decide) dX9_requestAt_33 qw_154))))) (s_N (s_N (s_L (s_iload_n dX9_requestAt_36 rfl)) (s_L (s_iald dX9_requestAt_37))) (s_N (s_L (s_o_goto dX9_requestAt_38 (by decide))) (s_N (s_L (s_iconst dX9_requestAt_41 (by decide +kernel))) (s_L (s_iret rfl dX9_requestAt_42))))))
/-! PlateArm.logged -/
theorem dX9_logged_0 : decode cX9_logged 0 = .ok (.iload_n 1, 1) := by decide +kernel
theorem dX9_logged_1 : decode cX9_logged 1 = .ok (.ifCond .lt 12, 3) := by decide +kernel
theorem dX9_logged_4 : decode cX9_logged 4 = .ok (.iload_n 2, 1) := by decide +kernel
theorem dX9_logged_5 : decode cX9_logged 5 = .ok (.ifCond .lt 8, 3) := by decide +kernel
theorem dX9_logged_8 : decode cX9_logged 8 = .ok (.iload_n 2, 1) := by decide +kernel
theorem dX9_logged_9 : decode cX9_logged 9 = .ok (.iconst 5, 1) := by decide +kernel
theorem dX9_logged_10 : decode cX9_logged 10 = .ok (.if_icmp .lt 11, 3) := by decide +kernel
theorem dX9_logged_13 : decode cX9_logged 13 = .ok (.new 46, 3) := by decide +kernel
theorem dX9_logged_16 : decode cX9_logged 16 = .ok (.dup, 1) := by decide +kernel
theorem dX9_logged_17 : decode cX9_logged 17 = .ok (.invokespecial 48, 3) := by decide +kernel
theorem dX9_logged_20 : decode cX9_logged 20 = .ok (.athrow, 1) := by decide +kernel
theorem dX9_logged_21 : decode cX9_logged 21 = .ok (.iload_n 1, 1) := by decide +kernel
theorem dX9_logged_22 : decode cX9_logged 22 = .ok (.aload_n 0, 1) := by decide +kernel
theorem dX9_logged_23 : decode cX9_logged 23 = .ok (.getfield 10, 3) := by decide +kernel
theorem dX9_logged_26 : decode cX9_logged 26 = .ok (.getfield 112, 3) := by decide +kernel
theorem dX9_logged_29 : decode cX9_logged 29 = .ok (.invokevirtual 139, 3) := by decide +kernel
theorem dX9_logged_32 : decode cX9_logged 32 = .ok (.if_icmp .ge 18, 3) := by decide +kernel
theorem dX9_logged_35 : decode cX9_logged 35 = .ok (.aload_n 0, 1) := by decide +kernel
theorem dX9_logged_36 : decode cX9_logged 36 = .ok (.getfield 10, 3) := by decide +kernel
theorem dX9_logged_39 : decode cX9_logged 39 = .ok (.getfield 112, 3) := by decide +kernel
theorem dX9_logged_42 : decode cX9_logged 42 = .ok (.iload_n 1, 1) := by decide +kernel
theorem dX9_logged_43 : decode cX9_logged 43 = .ok (.iload_n 2, 1) := by decide +kernel
theorem dX9_logged_44 : decode cX9_logged 44 = .ok (.invokevirtual 142, 3) := by decide +kernel
theorem dX9_logged_47 : decode cX9_logged 47 = .ok (.goto 4, 3) := by decide +kernel
theorem dX9_logged_50 : decode cX9_logged 50 = .ok (.iconst (-1), 1) := by decide +kernel
theorem dX9_logged_51 : decode cX9_logged 51 = .ok (.ireturn, 1) := by decide +kernel
theorem thr_X9_logged_13 : ThrOk tX9_logged 46 48 "java/lang/IllegalArgumentException" := ⟨thf_48.1, qw_690, qw_84, thf_48.2.1, thf_48.2.2.1, thf_48.2.2.2.1, thf_48.2.2.2.2, by decide, by decide⟩
theorem cc_X9_logged_X4_kept : CallC tX9_logged tX4_kept 0 := ⟨by decide +kernel, by decide +kernel, by decide +kernel, by decide, by decide, qw_74, qw_774⟩
theorem cc_X9_logged_X4_valueOf : CallC tX9_logged tX4_valueOf 2 := ⟨by decide +kernel, by decide +kernel, by decide +kernel, by decide, by decide, qw_74, qw_779⟩
def kX9_logged : Nat → WOp := cN 23 (cN 9 (cN 4 (cN 0 (cL 0 (o_iload 1 1)) (cN 1 (cL 1 (o_if_lt 13 4)) (cL 4 (o_iload 5 2)))) (cN 5 (cL 5 (o_if_lt 13 8)) (cN 8 (cL 8 (o_iload 9 2)) (cL 9 (o_push 10 5))))) (cN 16 (cN 10 (cL 10 (o_icmp_lt 21 13)) (cN 13 (cL 13 (o_throw "java/lang/IllegalArgumentException")) (cL 16 (o_dup 17)))) (cN 21 (cL 21 (o_iload 22 1)) (cN 22 (cL 22 (o_aload 23 0)) (cL 23 (o_getf 26 7 0)))))) (cN 39 (cN 32 (cN 26 (cL 26 (o_getf 29 5 6)) (cN 29 (cL 29 (o_callV 32 3 0 tX4_kept 0 0)) (cL 32 (o_icmp_ge 50 35)))) (cN 35 (cL 35 (o_aload 36 0)) (cN 36 (cL 36 (o_getf 39 7 0)) (cL 39 (o_getf 42 5 6))))) (cN 44 (cN 42 (cL 42 (o_iload 43 1)) (cN 43 (cL 43 (o_iload 44 2)) (cL 44 (o_callV 47 3 2 tX4_valueOf 0 0)))) (cN 47 (cL 47 (o_goto 51)) (cN 50 (cL 50 (o_push 51 (-1))) (cL 51 (o_iret))))))
theorem sX9_logged : ∀ pc, Snd tX9_logged G1 pc (kX9_logged pc) := s_N (s_N (s_N (s_N (s_L (s_iload_n dX9_logged_0 rfl)) (s_N (s_L (s_o_if_lt dX9_logged_1 (by decide))) (s_L (s_iload_n dX9_logged_4 rfl)))) (s_N (s_L (s_o_if_lt dX9_logged_5 (by decide))) (s_N (s_L (s_iload_n dX9_logged_8 rfl)) (s_L (s_iconst dX9_logged_9 (by decide +kernel)))))) (s_N (s_N (s_L (s_o_icmp_lt dX9_logged_10 (by decide))) (s_N (s_L (s_throw (thr_X9_logged_13) dX9_logged_13 dX9_logged_16 dX9_logged_17 dX9_logged_20)) (s_L (s_o_dup dX9_logged_16)))) (s_N (s_L (s_iload_n dX9_logged_21 rfl)) (s_N (s_L (s_aload_n dX9_logged_22 rfl)) (s_L (s_getf ok_7 (k := 0) (by decide) dX9_logged_23 qw_319)))))) (s_N (s_N (s_N (s_L (s_getf ok_5 (k := 6) (by decide) dX9_logged_26 qw_251)) (s_N (s_L (s_callV (d' := tX4_kept) (mc := 0) (ms := 0) ok_3 cc_X9_logged_X4_kept qw_771 qw_772 qw_773 dX9_logged_29)) (s_L (s_o_icmp_ge dX9_logged_32 (by decide))))) (s_N (s_L (s_aload_n dX9_logged_35 rfl)) (s_N (s_L (s_getf ok_7 (k := 0) (by decide) dX9_logged_36 qw_319)) (s_L (s_getf ok_5 (k := 6) (by decide) dX9_logged_39 qw_251))))) (s_N (s_N (s_L (s_iload_n dX9_logged_42 rfl)) (s_N (s_L (s_iload_n dX9_logged_43 rfl)) (s_L (s_callV (d' := tX4_valueOf) (mc := 0) (ms := 0) ok_3 cc_X9_logged_X4_valueOf qw_776 qw_777 qw_778 dX9_logged_44)))) (s_N (s_L (s_o_goto dX9_logged_47 (by decide))) (s_N (s_L (s_iconst dX9_logged_50 (by decide +kernel))) (s_L (s_iret rfl dX9_logged_51))))))
/-! PlateArm.arm -/
theorem dX9_arm_0 : decode cX9_arm 0 = .ok (.iload_n 1, 1) := by decide +kernel
theorem dX9_arm_1 : decode cX9_arm 1 = .ok (.tableswitch 110 0 5 #[39, 50, 61, 72, 91, 102], 39) := by decide +kernel
theorem dX9_arm_40 : decode cX9_arm 40 = .ok (.aload_n 0, 1) := by decide +kernel
theorem dX9_arm_41 : decode cX9_arm 41 = .ok (.getfield 10, 3) := by decide +kernel
theorem dX9_arm_44 : decode cX9_arm 44 = .ok (.getfield 145, 3) := by decide +kernel
theorem dX9_arm_47 : decode cX9_arm 47 = .ok (.getfield 149, 3) := by decide +kernel
theorem dX9_arm_50 : decode cX9_arm 50 = .ok (.ireturn, 1) := by decide +kernel
theorem dX9_arm_51 : decode cX9_arm 51 = .ok (.aload_n 0, 1) := by decide +kernel
theorem dX9_arm_52 : decode cX9_arm 52 = .ok (.getfield 10, 3) := by decide +kernel
theorem dX9_arm_55 : decode cX9_arm 55 = .ok (.getfield 145, 3) := by decide +kernel
theorem dX9_arm_58 : decode cX9_arm 58 = .ok (.getfield 154, 3) := by decide +kernel
theorem dX9_arm_61 : decode cX9_arm 61 = .ok (.ireturn, 1) := by decide +kernel
theorem dX9_arm_62 : decode cX9_arm 62 = .ok (.aload_n 0, 1) := by decide +kernel
theorem dX9_arm_63 : decode cX9_arm 63 = .ok (.getfield 10, 3) := by decide +kernel
theorem dX9_arm_66 : decode cX9_arm 66 = .ok (.getfield 145, 3) := by decide +kernel
theorem dX9_arm_69 : decode cX9_arm 69 = .ok (.getfield 157, 3) := by decide +kernel
theorem dX9_arm_72 : decode cX9_arm 72 = .ok (.ireturn, 1) := by decide +kernel
theorem dX9_arm_73 : decode cX9_arm 73 = .ok (.aload_n 0, 1) := by decide +kernel
theorem dX9_arm_74 : decode cX9_arm 74 = .ok (.getfield 10, 3) := by decide +kernel
theorem dX9_arm_77 : decode cX9_arm 77 = .ok (.getfield 145, 3) := by decide +kernel
theorem dX9_arm_80 : decode cX9_arm 80 = .ok (.getfield 160, 3) := by decide +kernel
theorem dX9_arm_83 : decode cX9_arm 83 = .ok (.ifCond .eq 7, 3) := by decide +kernel
theorem dX9_arm_86 : decode cX9_arm 86 = .ok (.iconst 1, 1) := by decide +kernel
theorem dX9_arm_87 : decode cX9_arm 87 = .ok (.goto 4, 3) := by decide +kernel
theorem dX9_arm_90 : decode cX9_arm 90 = .ok (.iconst 0, 1) := by decide +kernel
theorem dX9_arm_91 : decode cX9_arm 91 = .ok (.ireturn, 1) := by decide +kernel
theorem dX9_arm_92 : decode cX9_arm 92 = .ok (.aload_n 0, 1) := by decide +kernel
theorem dX9_arm_93 : decode cX9_arm 93 = .ok (.getfield 10, 3) := by decide +kernel
theorem dX9_arm_96 : decode cX9_arm 96 = .ok (.getfield 145, 3) := by decide +kernel
theorem dX9_arm_99 : decode cX9_arm 99 = .ok (.getfield 164, 3) := by decide +kernel
theorem dX9_arm_102 : decode cX9_arm 102 = .ok (.ireturn, 1) := by decide +kernel
theorem dX9_arm_103 : decode cX9_arm 103 = .ok (.aload_n 0, 1) := by decide +kernel
theorem dX9_arm_104 : decode cX9_arm 104 = .ok (.getfield 10, 3) := by decide +kernel
theorem dX9_arm_107 : decode cX9_arm 107 = .ok (.invokevirtual 167, 3) := by decide +kernel
theorem dX9_arm_110 : decode cX9_arm 110 = .ok (.ireturn, 1) := by decide +kernel
theorem dX9_arm_111 : decode cX9_arm 111 = .ok (.new 46, 3) := by decide +kernel
theorem dX9_arm_114 : decode cX9_arm 114 = .ok (.dup, 1) := by decide +kernel
theorem dX9_arm_115 : decode cX9_arm 115 = .ok (.invokespecial 48, 3) := by decide +kernel
theorem dX9_arm_118 : decode cX9_arm 118 = .ok (.athrow, 1) := by decide +kernel
theorem thr_X9_arm_111 : ThrOk tX9_arm 46 48 "java/lang/IllegalArgumentException" := ⟨thf_48.1, qw_690, qw_84, thf_48.2.1, thf_48.2.2.1, thf_48.2.2.2.1, thf_48.2.2.2.2, by decide, by decide⟩
theorem cc_X9_arm_X6_sectorUnderArm : CallC tX9_arm tX6_sectorUnderArm 0 := ⟨by decide +kernel, by decide +kernel, by decide +kernel, by decide, by decide, qw_71, qw_423⟩
def kX9_arm : Nat → WOp := cN 73 (cN 52 (cN 41 (cN 1 (cN 0 (cL 0 (o_iload 1 1)) (cL 1 (o_tsw 0 [40, 51, 62, 73, 92, 103] 111))) (cN 40 (cL 40 (o_aload 41 0)) (cL 41 (o_getf 44 7 0)))) (cN 47 (cN 44 (cL 44 (o_getf 47 5 4)) (cL 47 (o_getf 50 0 0))) (cN 50 (cL 50 (o_iret)) (cN 51 (cL 51 (o_aload 52 0)) (cL 52 (o_getf 55 7 0)))))) (cN 62 (cN 58 (cN 55 (cL 55 (o_getf 58 5 4)) (cL 58 (o_getf 61 0 1))) (cN 61 (cL 61 (o_iret)) (cL 62 (o_aload 63 0)))) (cN 66 (cN 63 (cL 63 (o_getf 66 7 0)) (cL 66 (o_getf 69 5 4))) (cN 69 (cL 69 (o_getf 72 0 2)) (cN 72 (cL 72 (o_iret)) (cL 73 (o_aload 74 0))))))) (cN 92 (cN 83 (cN 77 (cN 74 (cL 74 (o_getf 77 7 0)) (cL 77 (o_getf 80 5 4))) (cN 80 (cL 80 (o_getf 83 0 3)) (cL 83 (o_if_eq 90 86)))) (cN 87 (cN 86 (cL 86 (o_push 87 1)) (cL 87 (o_goto 91))) (cN 90 (cL 90 (o_push 91 0)) (cN 91 (cL 91 (o_iret)) (cL 92 (o_aload 93 0)))))) (cN 103 (cN 96 (cN 93 (cL 93 (o_getf 96 7 0)) (cL 96 (o_getf 99 5 4))) (cN 99 (cL 99 (o_getf 102 0 4)) (cN 102 (cL 102 (o_iret)) (cL 103 (o_aload 104 0))))) (cN 107 (cN 104 (cL 104 (o_getf 107 7 0)) (cL 107 (o_callV 110 5 0 tX6_sectorUnderArm 0 0))) (cN 110 (cL 110 (o_iret)) (cN 111 (cL 111 (o_throw "java/lang/IllegalArgumentException")) (cL 114 (o_dup 115)))))))
theorem sX9_arm : ∀ pc, Snd tX9_arm G1 pc (kX9_arm pc) := s_N (s_N (s_N (s_N (s_N (s_L (s_iload_n dX9_arm_0 rfl)) (s_L (s_tsw dX9_arm_1 (by decide +kernel) (by decide) (by decide) (by decide) (by intro k t h; match k, h with | 0, h => exact ⟨39, rfl, by cases h; decide⟩ | 1, h => exact ⟨50, rfl, by cases h; decide⟩ | 2, h => exact ⟨61, rfl, by cases h; decide⟩ | 3, h => exact ⟨72, rfl, by cases h; decide⟩ | 4, h => exact ⟨91, rfl, by cases h; decide⟩ | 5, h => exact ⟨102, rfl, by cases h; decide⟩ | k + 6, h => simp at h) (by decide)))) (s_N (s_L (s_aload_n dX9_arm_40 rfl)) (s_L (s_getf ok_7 (k := 0) (by decide) dX9_arm_41 qw_319)))) (s_N (s_N (s_L (s_getf ok_5 (k := 4) (by decide) dX9_arm_44 qw_247)) (s_L (s_getf ok_0 (k := 0) (by decide) dX9_arm_47 qw_117))) (s_N (s_L (s_iret rfl dX9_arm_50)) (s_N (s_L (s_aload_n dX9_arm_51 rfl)) (s_L (s_getf ok_7 (k := 0) (by decide) dX9_arm_52 qw_319)))))) (s_N (s_N (s_N (s_L (s_getf ok_5 (k := 4) (by decide) dX9_arm_55 qw_247)) (s_L (s_getf ok_0 (k := 1) (by decide) dX9_arm_58 qw_120))) (s_N (s_L (s_iret rfl dX9_arm_61)) (s_L (s_aload_n dX9_arm_62 rfl)))) (s_N (s_N (s_L (s_getf ok_7 (k := 0) (by decide) dX9_arm_63 qw_319)) (s_L (s_getf ok_5 (k := 4) (by decide) dX9_arm_66 qw_247))) (s_N (s_L (s_getf ok_0 (k := 2) (by decide) dX9_arm_69 qw_123)) (s_N (s_L (s_iret rfl dX9_arm_72)) (s_L (s_aload_n dX9_arm_73 rfl))))))) (s_N (s_N (s_N (s_N (s_L (s_getf ok_7 (k := 0) (by decide) dX9_arm_74 qw_319)) (s_L (s_getf ok_5 (k := 4) (by decide) dX9_arm_77 qw_247))) (s_N (s_L (s_getf ok_0 (k := 3) (by decide) dX9_arm_80 qw_126)) (s_L (s_o_if_eq dX9_arm_83 (by decide))))) (s_N (s_N (s_L (s_iconst dX9_arm_86 (by decide +kernel))) (s_L (s_o_goto dX9_arm_87 (by decide)))) (s_N (s_L (s_iconst dX9_arm_90 (by decide +kernel))) (s_N (s_L (s_iret rfl dX9_arm_91)) (s_L (s_aload_n dX9_arm_92 rfl)))))) (s_N (s_N (s_N (s_L (s_getf ok_7 (k := 0) (by decide) dX9_arm_93 qw_319)) (s_L (s_getf ok_5 (k := 4) (by decide) dX9_arm_96 qw_247))) (s_N (s_L (s_getf ok_0 (k := 4) (by decide) dX9_arm_99 qw_129)) (s_N (s_L (s_iret rfl dX9_arm_102)) (s_L (s_aload_n dX9_arm_103 rfl))))) (s_N (s_N (s_L (s_getf ok_7 (k := 0) (by decide) dX9_arm_104 qw_319)) (s_L (s_callV (d' := tX6_sectorUnderArm) (mc := 0) (ms := 0) ok_5 cc_X9_arm_X6_sectorUnderArm qw_757 qw_421 qw_422 dX9_arm_107))) (s_N (s_L (s_iret rfl dX9_arm_110)) (s_N (s_L (s_throw (thr_X9_arm_111) dX9_arm_111 dX9_arm_114 dX9_arm_115 dX9_arm_118)) (s_L (s_o_dup dX9_arm_114)))))))
/-! PlateArm.whole -/
theorem dX9_whole_0 : decode cX9_whole 0 = .ok (.iload_n 1, 1) := by decide +kernel
theorem dX9_whole_1 : decode cX9_whole 1 = .ok (.tableswitch 269 0 17 #[87, 95, 103, 113, 123, 133, 143, 151, 162, 173, 184, 195, 206, 217, 228, 239, 250, 261], 87) := by decide +kernel
theorem dX9_whole_88 : decode cX9_whole 88 = .ok (.aload_n 0, 1) := by decide +kernel
theorem dX9_whole_89 : decode cX9_whole 89 = .ok (.getfield 10, 3) := by decide +kernel
theorem dX9_whole_92 : decode cX9_whole 92 = .ok (.getfield 170, 3) := by decide +kernel
theorem dX9_whole_95 : decode cX9_whole 95 = .ok (.ireturn, 1) := by decide +kernel
theorem dX9_whole_96 : decode cX9_whole 96 = .ok (.aload_n 0, 1) := by decide +kernel
theorem dX9_whole_97 : decode cX9_whole 97 = .ok (.getfield 10, 3) := by decide +kernel
theorem dX9_whole_100 : decode cX9_whole 100 = .ok (.getfield 173, 3) := by decide +kernel
theorem dX9_whole_103 : decode cX9_whole 103 = .ok (.ireturn, 1) := by decide +kernel
theorem dX9_whole_104 : decode cX9_whole 104 = .ok (.aload_n 0, 1) := by decide +kernel
theorem dX9_whole_105 : decode cX9_whole 105 = .ok (.getfield 10, 3) := by decide +kernel
theorem dX9_whole_108 : decode cX9_whole 108 = .ok (.getfield 102, 3) := by decide +kernel
theorem dX9_whole_111 : decode cX9_whole 111 = .ok (.iconst 0, 1) := by decide +kernel
theorem dX9_whole_112 : decode cX9_whole 112 = .ok (.iaload, 1) := by decide +kernel
theorem dX9_whole_113 : decode cX9_whole 113 = .ok (.ireturn, 1) := by decide +kernel
theorem dX9_whole_114 : decode cX9_whole 114 = .ok (.aload_n 0, 1) := by decide +kernel
theorem dX9_whole_115 : decode cX9_whole 115 = .ok (.getfield 10, 3) := by decide +kernel
theorem dX9_whole_118 : decode cX9_whole 118 = .ok (.getfield 102, 3) := by decide +kernel
theorem dX9_whole_121 : decode cX9_whole 121 = .ok (.iconst 1, 1) := by decide +kernel
theorem dX9_whole_122 : decode cX9_whole 122 = .ok (.iaload, 1) := by decide +kernel
theorem dX9_whole_123 : decode cX9_whole 123 = .ok (.ireturn, 1) := by decide +kernel
theorem dX9_whole_124 : decode cX9_whole 124 = .ok (.aload_n 0, 1) := by decide +kernel
theorem dX9_whole_125 : decode cX9_whole 125 = .ok (.getfield 10, 3) := by decide +kernel
theorem dX9_whole_128 : decode cX9_whole 128 = .ok (.getfield 102, 3) := by decide +kernel
theorem dX9_whole_131 : decode cX9_whole 131 = .ok (.iconst 2, 1) := by decide +kernel
theorem dX9_whole_132 : decode cX9_whole 132 = .ok (.iaload, 1) := by decide +kernel
theorem dX9_whole_133 : decode cX9_whole 133 = .ok (.ireturn, 1) := by decide +kernel
theorem dX9_whole_134 : decode cX9_whole 134 = .ok (.aload_n 0, 1) := by decide +kernel
theorem dX9_whole_135 : decode cX9_whole 135 = .ok (.getfield 10, 3) := by decide +kernel
theorem dX9_whole_138 : decode cX9_whole 138 = .ok (.getfield 102, 3) := by decide +kernel
theorem dX9_whole_141 : decode cX9_whole 141 = .ok (.iconst 3, 1) := by decide +kernel
theorem dX9_whole_142 : decode cX9_whole 142 = .ok (.iaload, 1) := by decide +kernel
theorem dX9_whole_143 : decode cX9_whole 143 = .ok (.ireturn, 1) := by decide +kernel
theorem dX9_whole_144 : decode cX9_whole 144 = .ok (.aload_n 0, 1) := by decide +kernel
theorem dX9_whole_145 : decode cX9_whole 145 = .ok (.getfield 10, 3) := by decide +kernel
theorem dX9_whole_148 : decode cX9_whole 148 = .ok (.getfield 77, 3) := by decide +kernel
theorem dX9_whole_151 : decode cX9_whole 151 = .ok (.ireturn, 1) := by decide +kernel
theorem dX9_whole_152 : decode cX9_whole 152 = .ok (.aload_n 0, 1) := by decide +kernel
theorem dX9_whole_153 : decode cX9_whole 153 = .ok (.getfield 10, 3) := by decide +kernel
theorem dX9_whole_156 : decode cX9_whole 156 = .ok (.getfield 52, 3) := by decide +kernel
theorem dX9_whole_159 : decode cX9_whole 159 = .ok (.getfield 56, 3) := by decide +kernel
theorem dX9_whole_162 : decode cX9_whole 162 = .ok (.ireturn, 1) := by decide +kernel
theorem dX9_whole_163 : decode cX9_whole 163 = .ok (.aload_n 0, 1) := by decide +kernel
theorem dX9_whole_164 : decode cX9_whole 164 = .ok (.getfield 10, 3) := by decide +kernel
theorem dX9_whole_167 : decode cX9_whole 167 = .ok (.getfield 52, 3) := by decide +kernel
theorem dX9_whole_170 : decode cX9_whole 170 = .ok (.getfield 176, 3) := by decide +kernel
theorem dX9_whole_173 : decode cX9_whole 173 = .ok (.ireturn, 1) := by decide +kernel
theorem dX9_whole_174 : decode cX9_whole 174 = .ok (.aload_n 0, 1) := by decide +kernel
theorem dX9_whole_175 : decode cX9_whole 175 = .ok (.getfield 10, 3) := by decide +kernel
theorem dX9_whole_178 : decode cX9_whole 178 = .ok (.getfield 112, 3) := by decide +kernel
theorem dX9_whole_181 : decode cX9_whole 181 = .ok (.getfield 116, 3) := by decide +kernel
theorem dX9_whole_184 : decode cX9_whole 184 = .ok (.ireturn, 1) := by decide +kernel
theorem dX9_whole_185 : decode cX9_whole 185 = .ok (.aload_n 0, 1) := by decide +kernel
theorem dX9_whole_186 : decode cX9_whole 186 = .ok (.getfield 10, 3) := by decide +kernel
theorem dX9_whole_189 : decode cX9_whole 189 = .ok (.getfield 179, 3) := by decide +kernel
theorem dX9_whole_192 : decode cX9_whole 192 = .ok (.getfield 183, 3) := by decide +kernel
theorem dX9_whole_195 : decode cX9_whole 195 = .ok (.ireturn, 1) := by decide +kernel
theorem dX9_whole_196 : decode cX9_whole 196 = .ok (.aload_n 0, 1) := by decide +kernel
theorem dX9_whole_197 : decode cX9_whole 197 = .ok (.getfield 10, 3) := by decide +kernel
theorem dX9_whole_200 : decode cX9_whole 200 = .ok (.getfield 179, 3) := by decide +kernel
theorem dX9_whole_203 : decode cX9_whole 203 = .ok (.getfield 188, 3) := by decide +kernel
theorem dX9_whole_206 : decode cX9_whole 206 = .ok (.ireturn, 1) := by decide +kernel
theorem dX9_whole_207 : decode cX9_whole 207 = .ok (.aload_n 0, 1) := by decide +kernel
theorem dX9_whole_208 : decode cX9_whole 208 = .ok (.getfield 10, 3) := by decide +kernel
theorem dX9_whole_211 : decode cX9_whole 211 = .ok (.getfield 179, 3) := by decide +kernel
theorem dX9_whole_214 : decode cX9_whole 214 = .ok (.getfield 191, 3) := by decide +kernel
theorem dX9_whole_217 : decode cX9_whole 217 = .ok (.ireturn, 1) := by decide +kernel
theorem dX9_whole_218 : decode cX9_whole 218 = .ok (.aload_n 0, 1) := by decide +kernel
theorem dX9_whole_219 : decode cX9_whole 219 = .ok (.getfield 10, 3) := by decide +kernel
theorem dX9_whole_222 : decode cX9_whole 222 = .ok (.getfield 179, 3) := by decide +kernel
theorem dX9_whole_225 : decode cX9_whole 225 = .ok (.getfield 194, 3) := by decide +kernel
theorem dX9_whole_228 : decode cX9_whole 228 = .ok (.ireturn, 1) := by decide +kernel
theorem dX9_whole_229 : decode cX9_whole 229 = .ok (.aload_n 0, 1) := by decide +kernel
theorem dX9_whole_230 : decode cX9_whole 230 = .ok (.getfield 10, 3) := by decide +kernel
theorem dX9_whole_233 : decode cX9_whole 233 = .ok (.getfield 179, 3) := by decide +kernel
theorem dX9_whole_236 : decode cX9_whole 236 = .ok (.getfield 197, 3) := by decide +kernel
theorem dX9_whole_239 : decode cX9_whole 239 = .ok (.ireturn, 1) := by decide +kernel
theorem dX9_whole_240 : decode cX9_whole 240 = .ok (.aload_n 0, 1) := by decide +kernel
theorem dX9_whole_241 : decode cX9_whole 241 = .ok (.getfield 10, 3) := by decide +kernel
theorem dX9_whole_244 : decode cX9_whole 244 = .ok (.getfield 179, 3) := by decide +kernel
theorem dX9_whole_247 : decode cX9_whole 247 = .ok (.getfield 200, 3) := by decide +kernel
theorem dX9_whole_250 : decode cX9_whole 250 = .ok (.ireturn, 1) := by decide +kernel
theorem dX9_whole_251 : decode cX9_whole 251 = .ok (.aload_n 0, 1) := by decide +kernel
theorem dX9_whole_252 : decode cX9_whole 252 = .ok (.getfield 10, 3) := by decide +kernel
theorem dX9_whole_255 : decode cX9_whole 255 = .ok (.getfield 179, 3) := by decide +kernel
theorem dX9_whole_258 : decode cX9_whole 258 = .ok (.getfield 203, 3) := by decide +kernel
theorem dX9_whole_261 : decode cX9_whole 261 = .ok (.ireturn, 1) := by decide +kernel
theorem dX9_whole_262 : decode cX9_whole 262 = .ok (.aload_n 0, 1) := by decide +kernel
theorem dX9_whole_263 : decode cX9_whole 263 = .ok (.getfield 31, 3) := by decide +kernel
theorem dX9_whole_266 : decode cX9_whole 266 = .ok (.getfield 206, 3) := by decide +kernel
theorem dX9_whole_269 : decode cX9_whole 269 = .ok (.ireturn, 1) := by decide +kernel
theorem dX9_whole_270 : decode cX9_whole 270 = .ok (.new 46, 3) := by decide +kernel
theorem dX9_whole_273 : decode cX9_whole 273 = .ok (.dup, 1) := by decide +kernel
theorem dX9_whole_274 : decode cX9_whole 274 = .ok (.invokespecial 48, 3) := by decide +kernel
theorem dX9_whole_277 : decode cX9_whole 277 = .ok (.athrow, 1) := by decide +kernel
theorem thr_X9_whole_270 : ThrOk tX9_whole 46 48 "java/lang/IllegalArgumentException" := ⟨thf_48.1, qw_690, qw_84, thf_48.2.1, thf_48.2.2.1, thf_48.2.2.2.1, thf_48.2.2.2.2, by decide, by decide⟩
def kX9_whole : Nat → WOp := cN 170 (cN 124 (cN 104 (cN 92 (cN 1 (cN 0 (cL 0 (o_iload 1 1)) (cL 1 (o_tsw 0 [88, 96, 104, 114, 124, 134, 144, 152, 163, 174, 185, 196, 207, 218, 229, 240, 251, 262] 270))) (cN 88 (cL 88 (o_aload 89 0)) (cN 89 (cL 89 (o_getf 92 7 0)) (cL 92 (o_getf 95 5 0))))) (cN 97 (cN 95 (cL 95 (o_iret)) (cN 96 (cL 96 (o_aload 97 0)) (cL 97 (o_getf 100 7 0)))) (cN 100 (cL 100 (o_getf 103 5 1)) (cN 103 (cL 103 (o_iret)) (cL 104 (o_aload 105 0)))))) (cN 114 (cN 111 (cN 105 (cL 105 (o_getf 108 7 0)) (cN 108 (cL 108 (o_getf 111 5 3)) (cL 111 (o_push 112 0)))) (cN 112 (cL 112 (o_iald 113)) (cN 113 (cL 113 (o_iret)) (cL 114 (o_aload 115 0))))) (cN 121 (cN 115 (cL 115 (o_getf 118 7 0)) (cN 118 (cL 118 (o_getf 121 5 3)) (cL 121 (o_push 122 1)))) (cN 122 (cL 122 (o_iald 123)) (cN 123 (cL 123 (o_iret)) (cL 124 (o_aload 125 0))))))) (cN 144 (cN 134 (cN 131 (cN 125 (cL 125 (o_getf 128 7 0)) (cN 128 (cL 128 (o_getf 131 5 3)) (cL 131 (o_push 132 2)))) (cN 132 (cL 132 (o_iald 133)) (cN 133 (cL 133 (o_iret)) (cL 134 (o_aload 135 0))))) (cN 141 (cN 135 (cL 135 (o_getf 138 7 0)) (cN 138 (cL 138 (o_getf 141 5 3)) (cL 141 (o_push 142 3)))) (cN 142 (cL 142 (o_iald 143)) (cN 143 (cL 143 (o_iret)) (cL 144 (o_aload 145 0)))))) (cN 156 (cN 151 (cN 145 (cL 145 (o_getf 148 7 0)) (cN 148 (cL 148 (o_getf 151 5 2)) (cL 151 (o_iret)))) (cN 152 (cL 152 (o_aload 153 0)) (cN 153 (cL 153 (o_getf 156 7 0)) (cL 156 (o_getf 159 5 5))))) (cN 163 (cN 159 (cL 159 (o_getf 162 4 0)) (cN 162 (cL 162 (o_iret)) (cL 163 (o_aload 164 0)))) (cN 164 (cL 164 (o_getf 167 7 0)) (cN 167 (cL 167 (o_getf 170 5 5)) (cL 170 (o_getf 173 4 1)))))))) (cN 219 (cN 195 (cN 181 (cN 174 (cN 173 (cL 173 (o_iret)) (cL 174 (o_aload 175 0))) (cN 175 (cL 175 (o_getf 178 7 0)) (cN 178 (cL 178 (o_getf 181 5 6)) (cL 181 (o_getf 184 3 0))))) (cN 186 (cN 184 (cL 184 (o_iret)) (cN 185 (cL 185 (o_aload 186 0)) (cL 186 (o_getf 189 7 0)))) (cN 189 (cL 189 (o_getf 192 5 7)) (cN 192 (cL 192 (o_getf 195 6 0)) (cL 195 (o_iret)))))) (cN 207 (cN 200 (cN 196 (cL 196 (o_aload 197 0)) (cN 197 (cL 197 (o_getf 200 7 0)) (cL 200 (o_getf 203 5 7)))) (cN 203 (cL 203 (o_getf 206 6 1)) (cN 206 (cL 206 (o_iret)) (cL 207 (o_aload 208 0))))) (cN 214 (cN 208 (cL 208 (o_getf 211 7 0)) (cN 211 (cL 211 (o_getf 214 5 7)) (cL 214 (o_getf 217 6 2)))) (cN 217 (cL 217 (o_iret)) (cN 218 (cL 218 (o_aload 219 0)) (cL 219 (o_getf 222 7 0))))))) (cN 247 (cN 233 (cN 228 (cN 222 (cL 222 (o_getf 225 5 7)) (cN 225 (cL 225 (o_getf 228 6 3)) (cL 228 (o_iret)))) (cN 229 (cL 229 (o_aload 230 0)) (cN 230 (cL 230 (o_getf 233 7 0)) (cL 233 (o_getf 236 5 7))))) (cN 240 (cN 236 (cL 236 (o_getf 239 6 4)) (cN 239 (cL 239 (o_iret)) (cL 240 (o_aload 241 0)))) (cN 241 (cL 241 (o_getf 244 7 0)) (cN 244 (cL 244 (o_getf 247 5 7)) (cL 247 (o_getf 250 6 5)))))) (cN 261 (cN 252 (cN 250 (cL 250 (o_iret)) (cN 251 (cL 251 (o_aload 252 0)) (cL 252 (o_getf 255 7 0)))) (cN 255 (cL 255 (o_getf 258 5 7)) (cN 258 (cL 258 (o_getf 261 6 6)) (cL 261 (o_iret))))) (cN 266 (cN 262 (cL 262 (o_aload 263 0)) (cN 263 (cL 263 (o_getf 266 7 5)) (cL 266 (o_getf 269 2 0)))) (cN 269 (cL 269 (o_iret)) (cN 270 (cL 270 (o_throw "java/lang/IllegalArgumentException")) (cL 273 (o_dup 274))))))))
theorem sX9_whole : ∀ pc, Snd tX9_whole G1 pc (kX9_whole pc) := s_N (s_N (s_N (s_N (s_N (s_N (s_L (s_iload_n dX9_whole_0 rfl)) (s_L (s_tsw dX9_whole_1 (by decide +kernel) (by decide) (by decide) (by decide) (by intro k t h; match k, h with | 0, h => exact ⟨87, rfl, by cases h; decide⟩ | 1, h => exact ⟨95, rfl, by cases h; decide⟩ | 2, h => exact ⟨103, rfl, by cases h; decide⟩ | 3, h => exact ⟨113, rfl, by cases h; decide⟩ | 4, h => exact ⟨123, rfl, by cases h; decide⟩ | 5, h => exact ⟨133, rfl, by cases h; decide⟩ | 6, h => exact ⟨143, rfl, by cases h; decide⟩ | 7, h => exact ⟨151, rfl, by cases h; decide⟩ | 8, h => exact ⟨162, rfl, by cases h; decide⟩ | 9, h => exact ⟨173, rfl, by cases h; decide⟩ | 10, h => exact ⟨184, rfl, by cases h; decide⟩ | 11, h => exact ⟨195, rfl, by cases h; decide⟩ | 12, h => exact ⟨206, rfl, by cases h; decide⟩ | 13, h => exact ⟨217, rfl, by cases h; decide⟩ | 14, h => exact ⟨228, rfl, by cases h; decide⟩ | 15, h => exact ⟨239, rfl, by cases h; decide⟩ | 16, h => exact ⟨250, rfl, by cases h; decide⟩ | 17, h => exact ⟨261, rfl, by cases h; decide⟩ | k + 18, h => simp at h) (by decide)))) (s_N (s_L (s_aload_n dX9_whole_88 rfl)) (s_N (s_L (s_getf ok_7 (k := 0) (by decide) dX9_whole_89 qw_319)) (s_L (s_getf ok_5 (k := 0) (by decide) dX9_whole_92 qw_239))))) (s_N (s_N (s_L (s_iret rfl dX9_whole_95)) (s_N (s_L (s_aload_n dX9_whole_96 rfl)) (s_L (s_getf ok_7 (k := 0) (by decide) dX9_whole_97 qw_319)))) (s_N (s_L (s_getf ok_5 (k := 1) (by decide) dX9_whole_100 qw_241)) (s_N (s_L (s_iret rfl dX9_whole_103)) (s_L (s_aload_n dX9_whole_104 rfl)))))) (s_N (s_N (s_N (s_L (s_getf ok_7 (k := 0) (by decide) dX9_whole_105 qw_319)) (s_N (s_L (s_getf ok_5 (k := 3) (by decide) dX9_whole_108 qw_245)) (s_L (s_iconst dX9_whole_111 (by decide +kernel))))) (s_N (s_L (s_iald dX9_whole_112)) (s_N (s_L (s_iret rfl dX9_whole_113)) (s_L (s_aload_n dX9_whole_114 rfl))))) (s_N (s_N (s_L (s_getf ok_7 (k := 0) (by decide) dX9_whole_115 qw_319)) (s_N (s_L (s_getf ok_5 (k := 3) (by decide) dX9_whole_118 qw_245)) (s_L (s_iconst dX9_whole_121 (by decide +kernel))))) (s_N (s_L (s_iald dX9_whole_122)) (s_N (s_L (s_iret rfl dX9_whole_123)) (s_L (s_aload_n dX9_whole_124 rfl))))))) (s_N (s_N (s_N (s_N (s_L (s_getf ok_7 (k := 0) (by decide) dX9_whole_125 qw_319)) (s_N (s_L (s_getf ok_5 (k := 3) (by decide) dX9_whole_128 qw_245)) (s_L (s_iconst dX9_whole_131 (by decide +kernel))))) (s_N (s_L (s_iald dX9_whole_132)) (s_N (s_L (s_iret rfl dX9_whole_133)) (s_L (s_aload_n dX9_whole_134 rfl))))) (s_N (s_N (s_L (s_getf ok_7 (k := 0) (by decide) dX9_whole_135 qw_319)) (s_N (s_L (s_getf ok_5 (k := 3) (by decide) dX9_whole_138 qw_245)) (s_L (s_iconst dX9_whole_141 (by decide +kernel))))) (s_N (s_L (s_iald dX9_whole_142)) (s_N (s_L (s_iret rfl dX9_whole_143)) (s_L (s_aload_n dX9_whole_144 rfl)))))) (s_N (s_N (s_N (s_L (s_getf ok_7 (k := 0) (by decide) dX9_whole_145 qw_319)) (s_N (s_L (s_getf ok_5 (k := 2) (by decide) dX9_whole_148 qw_243)) (s_L (s_iret rfl dX9_whole_151)))) (s_N (s_L (s_aload_n dX9_whole_152 rfl)) (s_N (s_L (s_getf ok_7 (k := 0) (by decide) dX9_whole_153 qw_319)) (s_L (s_getf ok_5 (k := 5) (by decide) dX9_whole_156 qw_249))))) (s_N (s_N (s_L (s_getf ok_4 (k := 0) (by decide) dX9_whole_159 qw_149)) (s_N (s_L (s_iret rfl dX9_whole_162)) (s_L (s_aload_n dX9_whole_163 rfl)))) (s_N (s_L (s_getf ok_7 (k := 0) (by decide) dX9_whole_164 qw_319)) (s_N (s_L (s_getf ok_5 (k := 5) (by decide) dX9_whole_167 qw_249)) (s_L (s_getf ok_4 (k := 1) (by decide) dX9_whole_170 qw_152)))))))) (s_N (s_N (s_N (s_N (s_N (s_L (s_iret rfl dX9_whole_173)) (s_L (s_aload_n dX9_whole_174 rfl))) (s_N (s_L (s_getf ok_7 (k := 0) (by decide) dX9_whole_175 qw_319)) (s_N (s_L (s_getf ok_5 (k := 6) (by decide) dX9_whole_178 qw_251)) (s_L (s_getf ok_3 (k := 0) (by decide) dX9_whole_181 qw_189))))) (s_N (s_N (s_L (s_iret rfl dX9_whole_184)) (s_N (s_L (s_aload_n dX9_whole_185 rfl)) (s_L (s_getf ok_7 (k := 0) (by decide) dX9_whole_186 qw_319)))) (s_N (s_L (s_getf ok_5 (k := 7) (by decide) dX9_whole_189 qw_253)) (s_N (s_L (s_getf ok_6 (k := 0) (by decide) dX9_whole_192 qw_203)) (s_L (s_iret rfl dX9_whole_195)))))) (s_N (s_N (s_N (s_L (s_aload_n dX9_whole_196 rfl)) (s_N (s_L (s_getf ok_7 (k := 0) (by decide) dX9_whole_197 qw_319)) (s_L (s_getf ok_5 (k := 7) (by decide) dX9_whole_200 qw_253)))) (s_N (s_L (s_getf ok_6 (k := 1) (by decide) dX9_whole_203 qw_206)) (s_N (s_L (s_iret rfl dX9_whole_206)) (s_L (s_aload_n dX9_whole_207 rfl))))) (s_N (s_N (s_L (s_getf ok_7 (k := 0) (by decide) dX9_whole_208 qw_319)) (s_N (s_L (s_getf ok_5 (k := 7) (by decide) dX9_whole_211 qw_253)) (s_L (s_getf ok_6 (k := 2) (by decide) dX9_whole_214 qw_209)))) (s_N (s_L (s_iret rfl dX9_whole_217)) (s_N (s_L (s_aload_n dX9_whole_218 rfl)) (s_L (s_getf ok_7 (k := 0) (by decide) dX9_whole_219 qw_319))))))) (s_N (s_N (s_N (s_N (s_L (s_getf ok_5 (k := 7) (by decide) dX9_whole_222 qw_253)) (s_N (s_L (s_getf ok_6 (k := 3) (by decide) dX9_whole_225 qw_212)) (s_L (s_iret rfl dX9_whole_228)))) (s_N (s_L (s_aload_n dX9_whole_229 rfl)) (s_N (s_L (s_getf ok_7 (k := 0) (by decide) dX9_whole_230 qw_319)) (s_L (s_getf ok_5 (k := 7) (by decide) dX9_whole_233 qw_253))))) (s_N (s_N (s_L (s_getf ok_6 (k := 4) (by decide) dX9_whole_236 qw_215)) (s_N (s_L (s_iret rfl dX9_whole_239)) (s_L (s_aload_n dX9_whole_240 rfl)))) (s_N (s_L (s_getf ok_7 (k := 0) (by decide) dX9_whole_241 qw_319)) (s_N (s_L (s_getf ok_5 (k := 7) (by decide) dX9_whole_244 qw_253)) (s_L (s_getf ok_6 (k := 5) (by decide) dX9_whole_247 qw_219)))))) (s_N (s_N (s_N (s_L (s_iret rfl dX9_whole_250)) (s_N (s_L (s_aload_n dX9_whole_251 rfl)) (s_L (s_getf ok_7 (k := 0) (by decide) dX9_whole_252 qw_319)))) (s_N (s_L (s_getf ok_5 (k := 7) (by decide) dX9_whole_255 qw_253)) (s_N (s_L (s_getf ok_6 (k := 6) (by decide) dX9_whole_258 qw_222)) (s_L (s_iret rfl dX9_whole_261))))) (s_N (s_N (s_L (s_aload_n dX9_whole_262 rfl)) (s_N (s_L (s_getf ok_7 (k := 5) (by decide) dX9_whole_263 qw_324)) (s_L (s_getf ok_2 (k := 0) (by decide) dX9_whole_266 qw_282)))) (s_N (s_L (s_iret rfl dX9_whole_269)) (s_N (s_L (s_throw (thr_X9_whole_270) dX9_whole_270 dX9_whole_273 dX9_whole_274 dX9_whole_277)) (s_L (s_o_dup dX9_whole_273))))))))
/-! PlateArm.target -/
theorem dX9_target_0 : decode cX9_target 0 = .ok (.iload_n 1, 1) := by decide +kernel
theorem dX9_target_1 : decode cX9_target 1 = .ok (.invokestatic 209, 3) := by decide +kernel
theorem dX9_target_4 : decode cX9_target 4 = .ok (.ifCond .ne 11, 3) := by decide +kernel
theorem dX9_target_7 : decode cX9_target 7 = .ok (.new 46, 3) := by decide +kernel
theorem dX9_target_10 : decode cX9_target 10 = .ok (.dup, 1) := by decide +kernel
theorem dX9_target_11 : decode cX9_target 11 = .ok (.invokespecial 48, 3) := by decide +kernel
theorem dX9_target_14 : decode cX9_target 14 = .ok (.athrow, 1) := by decide +kernel
theorem dX9_target_15 : decode cX9_target 15 = .ok (.aload_n 0, 1) := by decide +kernel
theorem dX9_target_16 : decode cX9_target 16 = .ok (.getfield 10, 3) := by decide +kernel
theorem dX9_target_19 : decode cX9_target 19 = .ok (.iload_n 1, 1) := by decide +kernel
theorem dX9_target_20 : decode cX9_target 20 = .ok (.invokevirtual 212, 3) := by decide +kernel
theorem dX9_target_23 : decode cX9_target 23 = .ok (.istore_n 2, 1) := by decide +kernel
theorem dX9_target_24 : decode cX9_target 24 = .ok (.iload_n 2, 1) := by decide +kernel
theorem dX9_target_25 : decode cX9_target 25 = .ok (.iconst (-1), 1) := by decide +kernel
theorem dX9_target_26 : decode cX9_target 26 = .ok (.if_icmp .ne 7, 3) := by decide +kernel
theorem dX9_target_29 : decode cX9_target 29 = .ok (.iconst (-1), 1) := by decide +kernel
theorem dX9_target_30 : decode cX9_target 30 = .ok (.goto 15, 3) := by decide +kernel
theorem dX9_target_33 : decode cX9_target 33 = .ok (.aload_n 0, 1) := by decide +kernel
theorem dX9_target_34 : decode cX9_target 34 = .ok (.getfield 10, 3) := by decide +kernel
theorem dX9_target_37 : decode cX9_target 37 = .ok (.getfield 52, 3) := by decide +kernel
theorem dX9_target_40 : decode cX9_target 40 = .ok (.getfield 136, 3) := by decide +kernel
theorem dX9_target_43 : decode cX9_target 43 = .ok (.iload_n 2, 1) := by decide +kernel
theorem dX9_target_44 : decode cX9_target 44 = .ok (.iaload, 1) := by decide +kernel
theorem dX9_target_45 : decode cX9_target 45 = .ok (.ireturn, 1) := by decide +kernel
theorem thr_X9_target_7 : ThrOk tX9_target 46 48 "java/lang/IllegalArgumentException" := ⟨thf_48.1, qw_690, qw_84, thf_48.2.1, thf_48.2.2.1, thf_48.2.2.2.1, thf_48.2.2.2.2, by decide, by decide⟩
theorem cc_X9_target_X9_isWay : CallC tX9_target tX9_isWay 1 := ⟨by decide +kernel, by decide +kernel, by decide +kernel, by decide, by decide, qw_70, qw_790⟩
theorem cc_X9_target_X6_targetBy : CallC tX9_target tX6_targetBy 1 := ⟨by decide +kernel, by decide +kernel, by decide +kernel, by decide, by decide, qw_71, qw_794⟩
def kX9_target : Nat → WOp := cN 24 (cN 10 (cN 1 (cN 0 (cL 0 (o_iload 1 1)) (cL 1 (o_callS 4 1 tX9_isWay 0 0))) (cN 4 (cL 4 (o_if_ne 15 7)) (cN 7 (cL 7 (o_throw "java/lang/IllegalArgumentException")) (cL 10 (o_dup 11))))) (cN 19 (cN 15 (cL 15 (o_aload 16 0)) (cN 16 (cL 16 (o_getf 19 7 0)) (cL 19 (o_iload 20 1)))) (cN 20 (cL 20 (o_callV 23 5 1 tX6_targetBy 0 0)) (cN 23 (cL 23 (o_istore 24 2)) (cL 24 (o_iload 25 2)))))) (cN 33 (cN 26 (cN 25 (cL 25 (o_push 26 (-1))) (cL 26 (o_icmp_ne 33 29))) (cN 29 (cL 29 (o_push 30 (-1))) (cN 30 (cL 30 (o_goto 45)) (cL 33 (o_aload 34 0))))) (cN 40 (cN 34 (cL 34 (o_getf 37 7 0)) (cN 37 (cL 37 (o_getf 40 5 5)) (cL 40 (o_getf 43 4 2)))) (cN 43 (cL 43 (o_iload 44 2)) (cN 44 (cL 44 (o_iald 45)) (cL 45 (o_iret))))))
theorem sX9_target : ∀ pc, Snd tX9_target G1 pc (kX9_target pc) := s_N (s_N (s_N (s_N (s_L (s_iload_n dX9_target_0 rfl)) (s_L (s_callS (d' := tX9_isWay) (mc := 0) (ms := 0) cc_X9_target_X9_isWay qw_788 qw_789 dX9_target_1))) (s_N (s_L (s_o_if_ne dX9_target_4 (by decide))) (s_N (s_L (s_throw (thr_X9_target_7) dX9_target_7 dX9_target_10 dX9_target_11 dX9_target_14)) (s_L (s_o_dup dX9_target_10))))) (s_N (s_N (s_L (s_aload_n dX9_target_15 rfl)) (s_N (s_L (s_getf ok_7 (k := 0) (by decide) dX9_target_16 qw_319)) (s_L (s_iload_n dX9_target_19 rfl)))) (s_N (s_L (s_callV (d' := tX6_targetBy) (mc := 0) (ms := 0) ok_5 cc_X9_target_X6_targetBy qw_791 qw_792 qw_793 dX9_target_20)) (s_N (s_L (s_istore_n dX9_target_23 rfl (by decide))) (s_L (s_iload_n dX9_target_24 rfl)))))) (s_N (s_N (s_N (s_L (s_iconst dX9_target_25 (by decide +kernel))) (s_L (s_o_icmp_ne dX9_target_26 (by decide)))) (s_N (s_L (s_iconst dX9_target_29 (by decide +kernel))) (s_N (s_L (s_o_goto dX9_target_30 (by decide))) (s_L (s_aload_n dX9_target_33 rfl))))) (s_N (s_N (s_L (s_getf ok_7 (k := 0) (by decide) dX9_target_34 qw_319)) (s_N (s_L (s_getf ok_5 (k := 5) (by decide) dX9_target_37 qw_249)) (s_L (s_getf ok_4 (k := 2) (by decide) dX9_target_40 qw_154)))) (s_N (s_L (s_iload_n dX9_target_43 rfl)) (s_N (s_L (s_iald dX9_target_44)) (s_L (s_iret rfl dX9_target_45))))))
/-! PlateArm.readIn -/
theorem dX9_readIn_0 : decode cX9_readIn 0 = .ok (.aload_n 0, 1) := by decide +kernel
theorem dX9_readIn_1 : decode cX9_readIn 1 = .ok (.getfield 10, 3) := by decide +kernel
theorem dX9_readIn_4 : decode cX9_readIn 4 = .ok (.getfield 52, 3) := by decide +kernel
theorem dX9_readIn_7 : decode cX9_readIn 7 = .ok (.iload_n 1, 1) := by decide +kernel
theorem dX9_readIn_8 : decode cX9_readIn 8 = .ok (.invokevirtual 84, 3) := by decide +kernel
theorem dX9_readIn_11 : decode cX9_readIn 11 = .ok (.iconst (-1), 1) := by decide +kernel
theorem dX9_readIn_12 : decode cX9_readIn 12 = .ok (.if_icmp .ne 11, 3) := by decide +kernel
theorem dX9_readIn_15 : decode cX9_readIn 15 = .ok (.new 88, 3) := by decide +kernel
theorem dX9_readIn_18 : decode cX9_readIn 18 = .ok (.dup, 1) := by decide +kernel
theorem dX9_readIn_19 : decode cX9_readIn 19 = .ok (.invokespecial 90, 3) := by decide +kernel
theorem dX9_readIn_22 : decode cX9_readIn 22 = .ok (.athrow, 1) := by decide +kernel
theorem dX9_readIn_23 : decode cX9_readIn 23 = .ok (.aload_n 0, 1) := by decide +kernel
theorem dX9_readIn_24 : decode cX9_readIn 24 = .ok (.getfield 16, 3) := by decide +kernel
theorem dX9_readIn_27 : decode cX9_readIn 27 = .ok (.aload_n 0, 1) := by decide +kernel
theorem dX9_readIn_28 : decode cX9_readIn 28 = .ok (.getfield 10, 3) := by decide +kernel
theorem dX9_readIn_31 : decode cX9_readIn 31 = .ok (.invokevirtual 124, 3) := by decide +kernel
theorem dX9_readIn_34 : decode cX9_readIn 34 = .ok (.aload_n 0, 1) := by decide +kernel
theorem dX9_readIn_35 : decode cX9_readIn 35 = .ok (.getfield 16, 3) := by decide +kernel
theorem dX9_readIn_38 : decode cX9_readIn 38 = .ok (.iload_n 1, 1) := by decide +kernel
theorem dX9_readIn_39 : decode cX9_readIn 39 = .ok (.invokevirtual 215, 3) := by decide +kernel
theorem dX9_readIn_42 : decode cX9_readIn 42 = .ok (.ireturn, 1) := by decide +kernel
theorem thr_X9_readIn_15 : ThrOk tX9_readIn 88 90 "java/lang/IndexOutOfBoundsException" := ⟨thf_90.1, qw_839, qw_87, thf_90.2.1, thf_90.2.2.1, thf_90.2.2.2.1, thf_90.2.2.2.2, by decide, by decide⟩
theorem cc_X9_readIn_X5_indexOf : CallC tX9_readIn tX5_indexOf 1 := ⟨by decide +kernel, by decide +kernel, by decide +kernel, by decide, by decide, qw_73, qw_648⟩
theorem cc_X9_readIn_X6_copyFrom : CallC tX9_readIn tX6_copyFrom 1 := ⟨by decide +kernel, by decide +kernel, by decide +kernel, by decide, by decide, qw_71, qw_356⟩
theorem cc_X9_readIn_X6_tickOfReading : CallC tX9_readIn tX6_tickOfReading 1 := ⟨by decide +kernel, by decide +kernel, by decide +kernel, by decide, by decide, qw_71, qw_918⟩
def kX9_readIn : Nat → WOp := cN 18 (cN 7 (cN 1 (cN 0 (cL 0 (o_aload 1 0)) (cL 1 (o_getf 4 7 0))) (cN 4 (cL 4 (o_getf 7 5 5)) (cL 7 (o_iload 8 1)))) (cN 11 (cN 8 (cL 8 (o_callV 11 4 1 tX5_indexOf 0 0)) (cL 11 (o_push 12 (-1)))) (cN 12 (cL 12 (o_icmp_ne 23 15)) (cN 15 (cL 15 (o_throw "java/lang/IndexOutOfBoundsException")) (cL 18 (o_dup 19)))))) (cN 31 (cN 24 (cN 23 (cL 23 (o_aload 24 0)) (cL 24 (o_getf 27 7 1))) (cN 27 (cL 27 (o_aload 28 0)) (cN 28 (cL 28 (o_getf 31 7 0)) (cL 31 (o_callV 34 5 1 tX6_copyFrom 0 0))))) (cN 35 (cN 34 (cL 34 (o_aload 35 0)) (cL 35 (o_getf 38 7 1))) (cN 38 (cL 38 (o_iload 39 1)) (cN 39 (cL 39 (o_callV 42 5 1 tX6_tickOfReading 0 0)) (cL 42 (o_iret))))))
theorem sX9_readIn : ∀ pc, Snd tX9_readIn G1 pc (kX9_readIn pc) := s_N (s_N (s_N (s_N (s_L (s_aload_n dX9_readIn_0 rfl)) (s_L (s_getf ok_7 (k := 0) (by decide) dX9_readIn_1 qw_319))) (s_N (s_L (s_getf ok_5 (k := 5) (by decide) dX9_readIn_4 qw_249)) (s_L (s_iload_n dX9_readIn_7 rfl)))) (s_N (s_N (s_L (s_callV (d' := tX5_indexOf) (mc := 0) (ms := 0) ok_4 cc_X9_readIn_X5_indexOf qw_645 qw_646 qw_647 dX9_readIn_8)) (s_L (s_iconst dX9_readIn_11 (by decide +kernel)))) (s_N (s_L (s_o_icmp_ne dX9_readIn_12 (by decide))) (s_N (s_L (s_throw (thr_X9_readIn_15) dX9_readIn_15 dX9_readIn_18 dX9_readIn_19 dX9_readIn_22)) (s_L (s_o_dup dX9_readIn_18)))))) (s_N (s_N (s_N (s_L (s_aload_n dX9_readIn_23 rfl)) (s_L (s_getf ok_7 (k := 1) (by decide) dX9_readIn_24 qw_320))) (s_N (s_L (s_aload_n dX9_readIn_27 rfl)) (s_N (s_L (s_getf ok_7 (k := 0) (by decide) dX9_readIn_28 qw_319)) (s_L (s_callV (d' := tX6_copyFrom) (mc := 0) (ms := 0) ok_5 cc_X9_readIn_X6_copyFrom qw_353 qw_354 qw_355 dX9_readIn_31))))) (s_N (s_N (s_L (s_aload_n dX9_readIn_34 rfl)) (s_L (s_getf ok_7 (k := 1) (by decide) dX9_readIn_35 qw_320))) (s_N (s_L (s_iload_n dX9_readIn_38 rfl)) (s_N (s_L (s_callV (d' := tX6_tickOfReading) (mc := 0) (ms := 0) ok_5 cc_X9_readIn_X6_tickOfReading qw_915 qw_916 qw_917 dX9_readIn_39)) (s_L (s_iret rfl dX9_readIn_42))))))
/-! PlateArm.finishBy -/
theorem dX9_finishBy_0 : decode cX9_finishBy 0 = .ok (.iload_n 1, 1) := by decide +kernel
theorem dX9_finishBy_1 : decode cX9_finishBy 1 = .ok (.invokestatic 209, 3) := by decide +kernel
theorem dX9_finishBy_4 : decode cX9_finishBy 4 = .ok (.ifCond .eq 12, 3) := by decide +kernel
theorem dX9_finishBy_7 : decode cX9_finishBy 7 = .ok (.iload_n 2, 1) := by decide +kernel
theorem dX9_finishBy_8 : decode cX9_finishBy 8 = .ok (.ifCond .lt 8, 3) := by decide +kernel
theorem dX9_finishBy_11 : decode cX9_finishBy 11 = .ok (.iload_n 2, 1) := by decide +kernel
theorem dX9_finishBy_12 : decode cX9_finishBy 12 = .ok (.iconst 5, 1) := by decide +kernel
theorem dX9_finishBy_13 : decode cX9_finishBy 13 = .ok (.if_icmp .lt 11, 3) := by decide +kernel
theorem dX9_finishBy_16 : decode cX9_finishBy 16 = .ok (.new 46, 3) := by decide +kernel
theorem dX9_finishBy_19 : decode cX9_finishBy 19 = .ok (.dup, 1) := by decide +kernel
theorem dX9_finishBy_20 : decode cX9_finishBy 20 = .ok (.invokespecial 48, 3) := by decide +kernel
theorem dX9_finishBy_23 : decode cX9_finishBy 23 = .ok (.athrow, 1) := by decide +kernel
theorem dX9_finishBy_24 : decode cX9_finishBy 24 = .ok (.aload_n 0, 1) := by decide +kernel
theorem dX9_finishBy_25 : decode cX9_finishBy 25 = .ok (.iload_n 1, 1) := by decide +kernel
theorem dX9_finishBy_26 : decode cX9_finishBy 26 = .ok (.invokevirtual 218, 3) := by decide +kernel
theorem dX9_finishBy_29 : decode cX9_finishBy 29 = .ok (.aload_n 0, 1) := by decide +kernel
theorem dX9_finishBy_30 : decode cX9_finishBy 30 = .ok (.getfield 25, 3) := by decide +kernel
theorem dX9_finishBy_33 : decode cX9_finishBy 33 = .ok (.iload_n 1, 1) := by decide +kernel
theorem dX9_finishBy_34 : decode cX9_finishBy 34 = .ok (.aaload, 1) := by decide +kernel
theorem dX9_finishBy_35 : decode cX9_finishBy 35 = .ok (.iload_n 2, 1) := by decide +kernel
theorem dX9_finishBy_36 : decode cX9_finishBy 36 = .ok (.iaload, 1) := by decide +kernel
theorem dX9_finishBy_37 : decode cX9_finishBy 37 = .ok (.ireturn, 1) := by decide +kernel
theorem thr_X9_finishBy_16 : ThrOk tX9_finishBy 46 48 "java/lang/IllegalArgumentException" := ⟨thf_48.1, qw_690, qw_84, thf_48.2.1, thf_48.2.2.1, thf_48.2.2.2.1, thf_48.2.2.2.2, by decide, by decide⟩
theorem cc_X9_finishBy_X9_isWay : CallC tX9_finishBy tX9_isWay 1 := ⟨by decide +kernel, by decide +kernel, by decide +kernel, by decide, by decide, qw_70, qw_790⟩
theorem cc_X9_finishBy_X9_forecast : CallC tX9_finishBy tX9_forecast 1 := ⟨by decide +kernel, by decide +kernel, by decide +kernel, by decide, by decide, qw_70, qw_352⟩
def kX9_finishBy : Nat → WOp := cN 19 (cN 8 (cN 1 (cN 0 (cL 0 (o_iload 1 1)) (cL 1 (o_callS 4 1 tX9_isWay 0 0))) (cN 4 (cL 4 (o_if_eq 16 7)) (cN 7 (cL 7 (o_iload 8 2)) (cL 8 (o_if_lt 16 11))))) (cN 12 (cN 11 (cL 11 (o_iload 12 2)) (cL 12 (o_push 13 5))) (cN 13 (cL 13 (o_icmp_lt 24 16)) (cN 16 (cL 16 (o_throw "java/lang/IllegalArgumentException")) (cL 19 (o_dup 20)))))) (cN 30 (cN 25 (cN 24 (cL 24 (o_aload 25 0)) (cL 25 (o_iload 26 1))) (cN 26 (cL 26 (o_callV 29 7 1 tX9_forecast 0 0)) (cN 29 (cL 29 (o_aload 30 0)) (cL 30 (o_getf 33 7 4))))) (cN 34 (cN 33 (cL 33 (o_iload 34 1)) (cL 34 (o_aald 35 4))) (cN 35 (cL 35 (o_iload 36 2)) (cN 36 (cL 36 (o_iald 37)) (cL 37 (o_iret))))))
theorem sX9_finishBy : ∀ pc, Snd tX9_finishBy G1 pc (kX9_finishBy pc) := s_N (s_N (s_N (s_N (s_L (s_iload_n dX9_finishBy_0 rfl)) (s_L (s_callS (d' := tX9_isWay) (mc := 0) (ms := 0) cc_X9_finishBy_X9_isWay qw_788 qw_789 dX9_finishBy_1))) (s_N (s_L (s_o_if_eq dX9_finishBy_4 (by decide))) (s_N (s_L (s_iload_n dX9_finishBy_7 rfl)) (s_L (s_o_if_lt dX9_finishBy_8 (by decide)))))) (s_N (s_N (s_L (s_iload_n dX9_finishBy_11 rfl)) (s_L (s_iconst dX9_finishBy_12 (by decide +kernel)))) (s_N (s_L (s_o_icmp_lt dX9_finishBy_13 (by decide))) (s_N (s_L (s_throw (thr_X9_finishBy_16) dX9_finishBy_16 dX9_finishBy_19 dX9_finishBy_20 dX9_finishBy_23)) (s_L (s_o_dup dX9_finishBy_19)))))) (s_N (s_N (s_N (s_L (s_aload_n dX9_finishBy_24 rfl)) (s_L (s_iload_n dX9_finishBy_25 rfl))) (s_N (s_L (s_callV (d' := tX9_forecast) (mc := 0) (ms := 0) ok_7 cc_X9_finishBy_X9_forecast qw_349 qw_351 qw_1 dX9_finishBy_26)) (s_N (s_L (s_aload_n dX9_finishBy_29 rfl)) (s_L (s_getf ok_7 (k := 4) (by decide) dX9_finishBy_30 qw_323))))) (s_N (s_N (s_L (s_iload_n dX9_finishBy_33 rfl)) (s_L (s_aald (by decide) dX9_finishBy_34))) (s_N (s_L (s_iload_n dX9_finishBy_35 rfl)) (s_N (s_L (s_iald dX9_finishBy_36)) (s_L (s_iret rfl dX9_finishBy_37))))))
/-! PlateArm.bestWay -/
theorem dX9_bestWay_0 : decode cX9_bestWay 0 = .ok (.aload_n 0, 1) := by decide +kernel
theorem dX9_bestWay_1 : decode cX9_bestWay 1 = .ok (.invokevirtual 221, 3) := by decide +kernel
theorem dX9_bestWay_4 : decode cX9_bestWay 4 = .ok (.aload_n 0, 1) := by decide +kernel
theorem dX9_bestWay_5 : decode cX9_bestWay 5 = .ok (.invokevirtual 224, 3) := by decide +kernel
theorem dX9_bestWay_8 : decode cX9_bestWay 8 = .ok (.ireturn, 1) := by decide +kernel
theorem cc_X9_bestWay_X9_forecastAll : CallC tX9_bestWay tX9_forecastAll 0 := ⟨by decide +kernel, by decide +kernel, by decide +kernel, by decide, by decide, qw_70, qw_348⟩
theorem cc_X9_bestWay_X9_bestForecast : CallC tX9_bestWay tX9_bestForecast 0 := ⟨by decide +kernel, by decide +kernel, by decide +kernel, by decide, by decide, qw_70, qw_450⟩
def kX9_bestWay : Nat → WOp := cN 1 (cN 0 (cL 0 (o_aload 1 0)) (cL 1 (o_callV 4 7 0 tX9_forecastAll 0 0))) (cN 4 (cL 4 (o_aload 5 0)) (cN 5 (cL 5 (o_callV 8 7 0 tX9_bestForecast 0 0)) (cL 8 (o_iret))))
theorem sX9_bestWay : ∀ pc, Snd tX9_bestWay G1 pc (kX9_bestWay pc) := s_N (s_N (s_L (s_aload_n dX9_bestWay_0 rfl)) (s_L (s_callV (d' := tX9_forecastAll) (mc := 0) (ms := 0) ok_7 cc_X9_bestWay_X9_forecastAll qw_345 qw_347 qw_0 dX9_bestWay_1))) (s_N (s_L (s_aload_n dX9_bestWay_4 rfl)) (s_N (s_L (s_callV (d' := tX9_bestForecast) (mc := 0) (ms := 0) ok_7 cc_X9_bestWay_X9_bestForecast qw_447 qw_449 qw_10 dX9_bestWay_5)) (s_L (s_iret rfl dX9_bestWay_8))))
/-! PlateArm.heatIn -/
theorem dX9_heatIn_0 : decode cX9_heatIn 0 = .ok (.iload_n 1, 1) := by decide +kernel
theorem dX9_heatIn_1 : decode cX9_heatIn 1 = .ok (.ifCond .eq 18, 3) := by decide +kernel
theorem dX9_heatIn_4 : decode cX9_heatIn 4 = .ok (.iload_n 1, 1) := by decide +kernel
theorem dX9_heatIn_5 : decode cX9_heatIn 5 = .ok (.invokestatic 105, 3) := by decide +kernel
theorem dX9_heatIn_8 : decode cX9_heatIn 8 = .ok (.ifCond .ne 11, 3) := by decide +kernel
theorem dX9_heatIn_11 : decode cX9_heatIn 11 = .ok (.new 46, 3) := by decide +kernel
theorem dX9_heatIn_14 : decode cX9_heatIn 14 = .ok (.dup, 1) := by decide +kernel
theorem dX9_heatIn_15 : decode cX9_heatIn 15 = .ok (.invokespecial 48, 3) := by decide +kernel
theorem dX9_heatIn_18 : decode cX9_heatIn 18 = .ok (.athrow, 1) := by decide +kernel
theorem dX9_heatIn_19 : decode cX9_heatIn 19 = .ok (.aload_n 0, 1) := by decide +kernel
theorem dX9_heatIn_20 : decode cX9_heatIn 20 = .ok (.getfield 16, 3) := by decide +kernel
theorem dX9_heatIn_23 : decode cX9_heatIn 23 = .ok (.aload_n 0, 1) := by decide +kernel
theorem dX9_heatIn_24 : decode cX9_heatIn 24 = .ok (.getfield 10, 3) := by decide +kernel
theorem dX9_heatIn_27 : decode cX9_heatIn 27 = .ok (.invokevirtual 124, 3) := by decide +kernel
theorem dX9_heatIn_30 : decode cX9_heatIn 30 = .ok (.aload_n 0, 1) := by decide +kernel
theorem dX9_heatIn_31 : decode cX9_heatIn 31 = .ok (.getfield 16, 3) := by decide +kernel
theorem dX9_heatIn_34 : decode cX9_heatIn 34 = .ok (.iload_n 1, 1) := by decide +kernel
theorem dX9_heatIn_35 : decode cX9_heatIn 35 = .ok (.invokevirtual 121, 3) := by decide +kernel
theorem dX9_heatIn_38 : decode cX9_heatIn 38 = .ok (.aload_n 0, 1) := by decide +kernel
theorem dX9_heatIn_39 : decode cX9_heatIn 39 = .ok (.getfield 16, 3) := by decide +kernel
theorem dX9_heatIn_42 : decode cX9_heatIn 42 = .ok (.getfield 145, 3) := by decide +kernel
theorem dX9_heatIn_45 : decode cX9_heatIn 45 = .ok (.getfield 157, 3) := by decide +kernel
theorem dX9_heatIn_48 : decode cX9_heatIn 48 = .ok (.ireturn, 1) := by decide +kernel
theorem thr_X9_heatIn_11 : ThrOk tX9_heatIn 46 48 "java/lang/IllegalArgumentException" := ⟨thf_48.1, qw_690, qw_84, thf_48.2.1, thf_48.2.2.1, thf_48.2.2.2.1, thf_48.2.2.2.2, by decide, by decide⟩
theorem cc_X9_heatIn_X9_ticksFit : CallC tX9_heatIn tX9_ticksFit 1 := ⟨by decide +kernel, by decide +kernel, by decide +kernel, by decide, by decide, qw_70, qw_671⟩
theorem cc_X9_heatIn_X6_copyFrom : CallC tX9_heatIn tX6_copyFrom 1 := ⟨by decide +kernel, by decide +kernel, by decide +kernel, by decide, by decide, qw_71, qw_356⟩
theorem cc_X9_heatIn_X6_passTicks : CallC tX9_heatIn tX6_passTicks 1 := ⟨by decide +kernel, by decide +kernel, by decide +kernel, by decide, by decide, qw_71, qw_679⟩
def kX9_heatIn : Nat → WOp := cN 23 (cN 8 (cN 1 (cN 0 (cL 0 (o_iload 1 1)) (cL 1 (o_if_eq 19 4))) (cN 4 (cL 4 (o_iload 5 1)) (cN 5 (cL 5 (o_callS 8 1 tX9_ticksFit 0 0)) (cL 8 (o_if_ne 19 11))))) (cN 14 (cN 11 (cL 11 (o_throw "java/lang/IllegalArgumentException")) (cL 14 (o_dup 15))) (cN 19 (cL 19 (o_aload 20 0)) (cN 20 (cL 20 (o_getf 23 7 1)) (cL 23 (o_aload 24 0)))))) (cN 34 (cN 27 (cN 24 (cL 24 (o_getf 27 7 0)) (cL 27 (o_callV 30 5 1 tX6_copyFrom 0 0))) (cN 30 (cL 30 (o_aload 31 0)) (cN 31 (cL 31 (o_getf 34 7 1)) (cL 34 (o_iload 35 1))))) (cN 39 (cN 35 (cL 35 (o_callV 38 5 1 tX6_passTicks 0 0)) (cN 38 (cL 38 (o_aload 39 0)) (cL 39 (o_getf 42 7 1)))) (cN 42 (cL 42 (o_getf 45 5 4)) (cN 45 (cL 45 (o_getf 48 0 2)) (cL 48 (o_iret))))))
theorem sX9_heatIn : ∀ pc, Snd tX9_heatIn G1 pc (kX9_heatIn pc) := s_N (s_N (s_N (s_N (s_L (s_iload_n dX9_heatIn_0 rfl)) (s_L (s_o_if_eq dX9_heatIn_1 (by decide)))) (s_N (s_L (s_iload_n dX9_heatIn_4 rfl)) (s_N (s_L (s_callS (d' := tX9_ticksFit) (mc := 0) (ms := 0) cc_X9_heatIn_X9_ticksFit qw_669 qw_670 dX9_heatIn_5)) (s_L (s_o_if_ne dX9_heatIn_8 (by decide)))))) (s_N (s_N (s_L (s_throw (thr_X9_heatIn_11) dX9_heatIn_11 dX9_heatIn_14 dX9_heatIn_15 dX9_heatIn_18)) (s_L (s_o_dup dX9_heatIn_14))) (s_N (s_L (s_aload_n dX9_heatIn_19 rfl)) (s_N (s_L (s_getf ok_7 (k := 1) (by decide) dX9_heatIn_20 qw_320)) (s_L (s_aload_n dX9_heatIn_23 rfl)))))) (s_N (s_N (s_N (s_L (s_getf ok_7 (k := 0) (by decide) dX9_heatIn_24 qw_319)) (s_L (s_callV (d' := tX6_copyFrom) (mc := 0) (ms := 0) ok_5 cc_X9_heatIn_X6_copyFrom qw_353 qw_354 qw_355 dX9_heatIn_27))) (s_N (s_L (s_aload_n dX9_heatIn_30 rfl)) (s_N (s_L (s_getf ok_7 (k := 1) (by decide) dX9_heatIn_31 qw_320)) (s_L (s_iload_n dX9_heatIn_34 rfl))))) (s_N (s_N (s_L (s_callV (d' := tX6_passTicks) (mc := 0) (ms := 0) ok_5 cc_X9_heatIn_X6_passTicks qw_676 qw_677 qw_678 dX9_heatIn_35)) (s_N (s_L (s_aload_n dX9_heatIn_38 rfl)) (s_L (s_getf ok_7 (k := 1) (by decide) dX9_heatIn_39 qw_320)))) (s_N (s_L (s_getf ok_5 (k := 4) (by decide) dX9_heatIn_42 qw_247)) (s_N (s_L (s_getf ok_0 (k := 2) (by decide) dX9_heatIn_45 qw_123)) (s_L (s_iret rfl dX9_heatIn_48))))))
/-! PlateArm.widest -/
theorem dX9_widest_0 : decode cX9_widest 0 = .ok (.aload_n 0, 1) := by decide +kernel
theorem dX9_widest_1 : decode cX9_widest 1 = .ok (.getfield 10, 3) := by decide +kernel
theorem dX9_widest_4 : decode cX9_widest 4 = .ok (.getfield 52, 3) := by decide +kernel
theorem dX9_widest_7 : decode cX9_widest 7 = .ok (.invokevirtual 227, 3) := by decide +kernel
theorem dX9_widest_10 : decode cX9_widest 10 = .ok (.ireturn, 1) := by decide +kernel
theorem cc_X9_widest_X5_spread : CallC tX9_widest tX5_spread 0 := ⟨by decide +kernel, by decide +kernel, by decide +kernel, by decide, by decide, qw_73, qw_461⟩
def kX9_widest : Nat → WOp := cN 1 (cN 0 (cL 0 (o_aload 1 0)) (cL 1 (o_getf 4 7 0))) (cN 4 (cL 4 (o_getf 7 5 5)) (cN 7 (cL 7 (o_callV 10 4 0 tX5_spread 0 0)) (cL 10 (o_iret))))
theorem sX9_widest : ∀ pc, Snd tX9_widest G1 pc (kX9_widest pc) := s_N (s_N (s_L (s_aload_n dX9_widest_0 rfl)) (s_L (s_getf ok_7 (k := 0) (by decide) dX9_widest_1 qw_319))) (s_N (s_L (s_getf ok_5 (k := 5) (by decide) dX9_widest_4 qw_249)) (s_N (s_L (s_callV (d' := tX5_spread) (mc := 0) (ms := 0) ok_4 cc_X9_widest_X5_spread qw_458 qw_459 qw_460 dX9_widest_7)) (s_L (s_iret rfl dX9_widest_10))))
/-! PlateArm.reason -/
theorem dX9_reason_0 : decode cX9_reason 0 = .ok (.aload_n 0, 1) := by decide +kernel
theorem dX9_reason_1 : decode cX9_reason 1 = .ok (.getfield 10, 3) := by decide +kernel
theorem dX9_reason_4 : decode cX9_reason 4 = .ok (.getfield 52, 3) := by decide +kernel
theorem dX9_reason_7 : decode cX9_reason 7 = .ok (.iload_n 1, 1) := by decide +kernel
theorem dX9_reason_8 : decode cX9_reason 8 = .ok (.invokevirtual 84, 3) := by decide +kernel
theorem dX9_reason_11 : decode cX9_reason 11 = .ok (.istore_n 2, 1) := by decide +kernel
theorem dX9_reason_12 : decode cX9_reason 12 = .ok (.iload_n 2, 1) := by decide +kernel
theorem dX9_reason_13 : decode cX9_reason 13 = .ok (.iconst (-1), 1) := by decide +kernel
theorem dX9_reason_14 : decode cX9_reason 14 = .ok (.if_icmp .ne 11, 3) := by decide +kernel
theorem dX9_reason_17 : decode cX9_reason 17 = .ok (.new 88, 3) := by decide +kernel
theorem dX9_reason_20 : decode cX9_reason 20 = .ok (.dup, 1) := by decide +kernel
theorem dX9_reason_21 : decode cX9_reason 21 = .ok (.invokespecial 90, 3) := by decide +kernel
theorem dX9_reason_24 : decode cX9_reason 24 = .ok (.athrow, 1) := by decide +kernel
theorem dX9_reason_25 : decode cX9_reason 25 = .ok (.aload_n 0, 1) := by decide +kernel
theorem dX9_reason_26 : decode cX9_reason 26 = .ok (.getfield 10, 3) := by decide +kernel
theorem dX9_reason_29 : decode cX9_reason 29 = .ok (.iload_n 2, 1) := by decide +kernel
theorem dX9_reason_30 : decode cX9_reason 30 = .ok (.invokevirtual 230, 3) := by decide +kernel
theorem dX9_reason_33 : decode cX9_reason 33 = .ok (.ireturn, 1) := by decide +kernel
theorem thr_X9_reason_17 : ThrOk tX9_reason 88 90 "java/lang/IndexOutOfBoundsException" := ⟨thf_90.1, qw_839, qw_87, thf_90.2.1, thf_90.2.2.1, thf_90.2.2.2.1, thf_90.2.2.2.2, by decide, by decide⟩
theorem cc_X9_reason_X5_indexOf : CallC tX9_reason tX5_indexOf 1 := ⟨by decide +kernel, by decide +kernel, by decide +kernel, by decide, by decide, qw_73, qw_648⟩
theorem cc_X9_reason_X6_hindranceOf : CallC tX9_reason tX6_hindranceOf 1 := ⟨by decide +kernel, by decide +kernel, by decide +kernel, by decide, by decide, qw_71, qw_941⟩
def kX9_reason : Nat → WOp := cN 13 (cN 7 (cN 1 (cN 0 (cL 0 (o_aload 1 0)) (cL 1 (o_getf 4 7 0))) (cN 4 (cL 4 (o_getf 7 5 5)) (cL 7 (o_iload 8 1)))) (cN 11 (cN 8 (cL 8 (o_callV 11 4 1 tX5_indexOf 0 0)) (cL 11 (o_istore 12 2))) (cN 12 (cL 12 (o_iload 13 2)) (cL 13 (o_push 14 (-1)))))) (cN 25 (cN 17 (cN 14 (cL 14 (o_icmp_ne 25 17)) (cL 17 (o_throw "java/lang/IndexOutOfBoundsException"))) (cN 20 (cL 20 (o_dup 21)) (cL 25 (o_aload 26 0)))) (cN 29 (cN 26 (cL 26 (o_getf 29 7 0)) (cL 29 (o_iload 30 2))) (cN 30 (cL 30 (o_callV 33 5 1 tX6_hindranceOf 0 0)) (cL 33 (o_iret)))))
theorem sX9_reason : ∀ pc, Snd tX9_reason G1 pc (kX9_reason pc) := s_N (s_N (s_N (s_N (s_L (s_aload_n dX9_reason_0 rfl)) (s_L (s_getf ok_7 (k := 0) (by decide) dX9_reason_1 qw_319))) (s_N (s_L (s_getf ok_5 (k := 5) (by decide) dX9_reason_4 qw_249)) (s_L (s_iload_n dX9_reason_7 rfl)))) (s_N (s_N (s_L (s_callV (d' := tX5_indexOf) (mc := 0) (ms := 0) ok_4 cc_X9_reason_X5_indexOf qw_645 qw_646 qw_647 dX9_reason_8)) (s_L (s_istore_n dX9_reason_11 rfl (by decide)))) (s_N (s_L (s_iload_n dX9_reason_12 rfl)) (s_L (s_iconst dX9_reason_13 (by decide +kernel)))))) (s_N (s_N (s_N (s_L (s_o_icmp_ne dX9_reason_14 (by decide))) (s_L (s_throw (thr_X9_reason_17) dX9_reason_17 dX9_reason_20 dX9_reason_21 dX9_reason_24))) (s_N (s_L (s_o_dup dX9_reason_20)) (s_L (s_aload_n dX9_reason_25 rfl)))) (s_N (s_N (s_L (s_getf ok_7 (k := 0) (by decide) dX9_reason_26 qw_319)) (s_L (s_iload_n dX9_reason_29 rfl))) (s_N (s_L (s_callV (d' := tX6_hindranceOf) (mc := 0) (ms := 0) ok_5 cc_X9_reason_X6_hindranceOf qw_938 qw_939 qw_940 dX9_reason_30)) (s_L (s_iret rfl dX9_reason_33)))))
/-! PlateArm.type -/
theorem dX9_type_0 : decode cX9_type 0 = .ok (.iload_n 1, 1) := by decide +kernel
theorem dX9_type_1 : decode cX9_type 1 = .ok (.ifCond .lt 9, 3) := by decide +kernel
theorem dX9_type_4 : decode cX9_type 4 = .ok (.iload_n 1, 1) := by decide +kernel
theorem dX9_type_5 : decode cX9_type 5 = .ok (.bipush 127, 2) := by decide +kernel
theorem dX9_type_7 : decode cX9_type 7 = .ok (.if_icmp .le 11, 3) := by decide +kernel
theorem dX9_type_10 : decode cX9_type 10 = .ok (.new 46, 3) := by decide +kernel
theorem dX9_type_13 : decode cX9_type 13 = .ok (.dup, 1) := by decide +kernel
theorem dX9_type_14 : decode cX9_type 14 = .ok (.invokespecial 48, 3) := by decide +kernel
theorem dX9_type_17 : decode cX9_type 17 = .ok (.athrow, 1) := by decide +kernel
theorem dX9_type_18 : decode cX9_type 18 = .ok (.aload_n 0, 1) := by decide +kernel
theorem dX9_type_19 : decode cX9_type 19 = .ok (.getfield 31, 3) := by decide +kernel
theorem dX9_type_22 : decode cX9_type 22 = .ok (.invokevirtual 233, 3) := by decide +kernel
theorem dX9_type_25 : decode cX9_type 25 = .ok (.ifCond .eq 11, 3) := by decide +kernel
theorem dX9_type_28 : decode cX9_type 28 = .ok (.new 74, 3) := by decide +kernel
theorem dX9_type_31 : decode cX9_type 31 = .ok (.dup, 1) := by decide +kernel
theorem dX9_type_32 : decode cX9_type 32 = .ok (.invokespecial 76, 3) := by decide +kernel
theorem dX9_type_35 : decode cX9_type 35 = .ok (.athrow, 1) := by decide +kernel
theorem dX9_type_36 : decode cX9_type 36 = .ok (.aload_n 0, 1) := by decide +kernel
theorem dX9_type_37 : decode cX9_type 37 = .ok (.getfield 31, 3) := by decide +kernel
theorem dX9_type_40 : decode cX9_type 40 = .ok (.iload_n 1, 1) := by decide +kernel
theorem dX9_type_41 : decode cX9_type 41 = .ok (.invokevirtual 234, 3) := by decide +kernel
theorem dX9_type_44 : decode cX9_type 44 = .ok (.ireturn, 1) := by decide +kernel
theorem thr_X9_type_10 : ThrOk tX9_type 46 48 "java/lang/IllegalArgumentException" := ⟨thf_48.1, qw_690, qw_84, thf_48.2.1, thf_48.2.2.1, thf_48.2.2.2.1, thf_48.2.2.2.2, by decide, by decide⟩
theorem thr_X9_type_28 : ThrOk tX9_type 74 76 "java/lang/IllegalStateException" := ⟨thf_76.1, qw_816, qw_86, thf_76.2.1, thf_76.2.2.1, thf_76.2.2.2.1, thf_76.2.2.2.2, by decide, by decide⟩
theorem cc_X9_type_X3_isFull : CallC tX9_type tX3_isFull 0 := ⟨by decide +kernel, by decide +kernel, by decide +kernel, by decide, by decide, qw_76, qw_953⟩
theorem cc_X9_type_X3_append : CallC tX9_type tX3_append 1 := ⟨by decide +kernel, by decide +kernel, by decide +kernel, by decide, by decide, qw_76, qw_957⟩
def kX9_type : Nat → WOp := cN 19 (cN 5 (cN 1 (cN 0 (cL 0 (o_iload 1 1)) (cL 1 (o_if_lt 10 4))) (cN 4 (cL 4 (o_iload 5 1)) (cL 5 (o_push 7 127)))) (cN 10 (cN 7 (cL 7 (o_icmp_le 18 10)) (cL 10 (o_throw "java/lang/IllegalArgumentException"))) (cN 13 (cL 13 (o_dup 14)) (cN 18 (cL 18 (o_aload 19 0)) (cL 19 (o_getf 22 7 5)))))) (cN 31 (cN 25 (cN 22 (cL 22 (o_callV 25 2 0 tX3_isFull 0 0)) (cL 25 (o_if_eq 36 28))) (cN 28 (cL 28 (o_throw "java/lang/IllegalStateException")) (cL 31 (o_dup 32)))) (cN 37 (cN 36 (cL 36 (o_aload 37 0)) (cL 37 (o_getf 40 7 5))) (cN 40 (cL 40 (o_iload 41 1)) (cN 41 (cL 41 (o_callV 44 2 1 tX3_append 0 0)) (cL 44 (o_iret))))))
theorem sX9_type : ∀ pc, Snd tX9_type G1 pc (kX9_type pc) := s_N (s_N (s_N (s_N (s_L (s_iload_n dX9_type_0 rfl)) (s_L (s_o_if_lt dX9_type_1 (by decide)))) (s_N (s_L (s_iload_n dX9_type_4 rfl)) (s_L (s_bipush dX9_type_5 (by decide +kernel))))) (s_N (s_N (s_L (s_o_icmp_le dX9_type_7 (by decide))) (s_L (s_throw (thr_X9_type_10) dX9_type_10 dX9_type_13 dX9_type_14 dX9_type_17))) (s_N (s_L (s_o_dup dX9_type_13)) (s_N (s_L (s_aload_n dX9_type_18 rfl)) (s_L (s_getf ok_7 (k := 5) (by decide) dX9_type_19 qw_324)))))) (s_N (s_N (s_N (s_L (s_callV (d' := tX3_isFull) (mc := 0) (ms := 0) ok_2 cc_X9_type_X3_isFull qw_950 qw_951 qw_952 dX9_type_22)) (s_L (s_o_if_eq dX9_type_25 (by decide)))) (s_N (s_L (s_throw (thr_X9_type_28) dX9_type_28 dX9_type_31 dX9_type_32 dX9_type_35)) (s_L (s_o_dup dX9_type_31)))) (s_N (s_N (s_L (s_aload_n dX9_type_36 rfl)) (s_L (s_getf ok_7 (k := 5) (by decide) dX9_type_37 qw_324))) (s_N (s_L (s_iload_n dX9_type_40 rfl)) (s_N (s_L (s_callV (d' := tX3_append) (mc := 0) (ms := 0) ok_2 cc_X9_type_X3_append qw_954 qw_955 qw_956 dX9_type_41)) (s_L (s_iret rfl dX9_type_44))))))
/-! PlateArm.clearCommands -/
theorem dX9_clearCommands_0 : decode cX9_clearCommands 0 = .ok (.aload_n 0, 1) := by decide +kernel
theorem dX9_clearCommands_1 : decode cX9_clearCommands 1 = .ok (.getfield 31, 3) := by decide +kernel
theorem dX9_clearCommands_4 : decode cX9_clearCommands 4 = .ok (.getfield 206, 3) := by decide +kernel
theorem dX9_clearCommands_7 : decode cX9_clearCommands 7 = .ok (.istore_n 1, 1) := by decide +kernel
theorem dX9_clearCommands_8 : decode cX9_clearCommands 8 = .ok (.aload_n 0, 1) := by decide +kernel
theorem dX9_clearCommands_9 : decode cX9_clearCommands 9 = .ok (.getfield 31, 3) := by decide +kernel
theorem dX9_clearCommands_12 : decode cX9_clearCommands 12 = .ok (.iconst 0, 1) := by decide +kernel
theorem dX9_clearCommands_13 : decode cX9_clearCommands 13 = .ok (.putfield 206, 3) := by decide +kernel
theorem dX9_clearCommands_16 : decode cX9_clearCommands 16 = .ok (.iload_n 1, 1) := by decide +kernel
theorem dX9_clearCommands_17 : decode cX9_clearCommands 17 = .ok (.ireturn, 1) := by decide +kernel
def kX9_clearCommands : Nat → WOp := cN 8 (cN 1 (cN 0 (cL 0 (o_aload 1 0)) (cL 1 (o_getf 4 7 5))) (cN 4 (cL 4 (o_getf 7 2 0)) (cN 7 (cL 7 (o_istore 8 1)) (cL 8 (o_aload 9 0))))) (cN 12 (cN 9 (cL 9 (o_getf 12 7 5)) (cL 12 (o_push 13 0))) (cN 13 (cL 13 (o_puti 16 2 0)) (cN 16 (cL 16 (o_iload 17 1)) (cL 17 (o_iret)))))
theorem sX9_clearCommands : ∀ pc, Snd tX9_clearCommands G1 pc (kX9_clearCommands pc) := s_N (s_N (s_N (s_L (s_aload_n dX9_clearCommands_0 rfl)) (s_L (s_getf ok_7 (k := 5) (by decide) dX9_clearCommands_1 qw_324))) (s_N (s_L (s_getf ok_2 (k := 0) (by decide) dX9_clearCommands_4 qw_282)) (s_N (s_L (s_istore_n dX9_clearCommands_7 rfl (by decide))) (s_L (s_aload_n dX9_clearCommands_8 rfl))))) (s_N (s_N (s_L (s_getf ok_7 (k := 5) (by decide) dX9_clearCommands_9 qw_324)) (s_L (s_iconst dX9_clearCommands_12 (by decide +kernel)))) (s_N (s_L (s_puti ok_2 (k := 0) (by decide) rfl (Or.inl rfl) dX9_clearCommands_13 qw_282)) (s_N (s_L (s_iload_n dX9_clearCommands_16 rfl)) (s_L (s_iret rfl dX9_clearCommands_17)))))
/-! PlateArm.runCommands -/
theorem dX9_runCommands_0 : decode cX9_runCommands 0 = .ok (.aload_n 0, 1) := by decide +kernel
theorem dX9_runCommands_1 : decode cX9_runCommands 1 = .ok (.getfield 38, 3) := by decide +kernel
theorem dX9_runCommands_4 : decode cX9_runCommands 4 = .ok (.aload_n 0, 1) := by decide +kernel
theorem dX9_runCommands_5 : decode cX9_runCommands 5 = .ok (.getfield 31, 3) := by decide +kernel
theorem dX9_runCommands_8 : decode cX9_runCommands 8 = .ok (.invokevirtual 237, 3) := by decide +kernel
theorem dX9_runCommands_11 : decode cX9_runCommands 11 = .ok (.istore_n 1, 1) := by decide +kernel
theorem dX9_runCommands_12 : decode cX9_runCommands 12 = .ok (.iload_n 1, 1) := by decide +kernel
theorem dX9_runCommands_13 : decode cX9_runCommands 13 = .ok (.iconst (-1), 1) := by decide +kernel
theorem dX9_runCommands_14 : decode cX9_runCommands 14 = .ok (.if_icmp .eq 8, 3) := by decide +kernel
theorem dX9_runCommands_17 : decode cX9_runCommands 17 = .ok (.bipush (-10), 2) := by decide +kernel
theorem dX9_runCommands_19 : decode cX9_runCommands 19 = .ok (.iload_n 1, 1) := by decide +kernel
theorem dX9_runCommands_20 : decode cX9_runCommands 20 = .ok (.isub, 1) := by decide +kernel
theorem dX9_runCommands_21 : decode cX9_runCommands 21 = .ok (.ireturn, 1) := by decide +kernel
theorem dX9_runCommands_22 : decode cX9_runCommands 22 = .ok (.aload_n 0, 1) := by decide +kernel
theorem dX9_runCommands_23 : decode cX9_runCommands 23 = .ok (.invokevirtual 49, 3) := by decide +kernel
theorem dX9_runCommands_26 : decode cX9_runCommands 26 = .ok (.aload_n 0, 1) := by decide +kernel
theorem dX9_runCommands_27 : decode cX9_runCommands 27 = .ok (.getfield 38, 3) := by decide +kernel
theorem dX9_runCommands_30 : decode cX9_runCommands 30 = .ok (.invokevirtual 241, 3) := by decide +kernel
theorem dX9_runCommands_33 : decode cX9_runCommands 33 = .ok (.iconst 0, 1) := by decide +kernel
theorem dX9_runCommands_34 : decode cX9_runCommands 34 = .ok (.istore_n 2, 1) := by decide +kernel
theorem dX9_runCommands_35 : decode cX9_runCommands 35 = .ok (.iconst 0, 1) := by decide +kernel
theorem dX9_runCommands_36 : decode cX9_runCommands 36 = .ok (.istore_n 3, 1) := by decide +kernel
theorem dX9_runCommands_37 : decode cX9_runCommands 37 = .ok (.iload_n 3, 1) := by decide +kernel
theorem dX9_runCommands_38 : decode cX9_runCommands 38 = .ok (.aload_n 0, 1) := by decide +kernel
theorem dX9_runCommands_39 : decode cX9_runCommands 39 = .ok (.getfield 31, 3) := by decide +kernel
theorem dX9_runCommands_42 : decode cX9_runCommands 42 = .ok (.getfield 206, 3) := by decide +kernel
theorem dX9_runCommands_45 : decode cX9_runCommands 45 = .ok (.if_icmp .ge 61, 3) := by decide +kernel
theorem dX9_runCommands_48 : decode cX9_runCommands 48 = .ok (.aload_n 0, 1) := by decide +kernel
theorem dX9_runCommands_49 : decode cX9_runCommands 49 = .ok (.getfield 38, 3) := by decide +kernel
theorem dX9_runCommands_52 : decode cX9_runCommands 52 = .ok (.aload_n 0, 1) := by decide +kernel
theorem dX9_runCommands_53 : decode cX9_runCommands 53 = .ok (.getfield 31, 3) := by decide +kernel
theorem dX9_runCommands_56 : decode cX9_runCommands 56 = .ok (.iload_n 3, 1) := by decide +kernel
theorem dX9_runCommands_57 : decode cX9_runCommands 57 = .ok (.invokevirtual 244, 3) := by decide +kernel
theorem dX9_runCommands_60 : decode cX9_runCommands 60 = .ok (.pop, 1) := by decide +kernel
theorem dX9_runCommands_61 : decode cX9_runCommands 61 = .ok (.aload_n 0, 1) := by decide +kernel
theorem dX9_runCommands_62 : decode cX9_runCommands 62 = .ok (.getfield 31, 3) := by decide +kernel
theorem dX9_runCommands_65 : decode cX9_runCommands 65 = .ok (.iload_n 3, 1) := by decide +kernel
theorem dX9_runCommands_66 : decode cX9_runCommands 66 = .ok (.invokevirtual 248, 3) := by decide +kernel
theorem dX9_runCommands_69 : decode cX9_runCommands 69 = .ok (.bipush 59, 2) := by decide +kernel
theorem dX9_runCommands_71 : decode cX9_runCommands 71 = .ok (.if_icmp .ne 29, 3) := by decide +kernel
theorem dX9_runCommands_74 : decode cX9_runCommands 74 = .ok (.aload_n 0, 1) := by decide +kernel
theorem dX9_runCommands_75 : decode cX9_runCommands 75 = .ok (.aload_n 0, 1) := by decide +kernel
theorem dX9_runCommands_76 : decode cX9_runCommands 76 = .ok (.getfield 38, 3) := by decide +kernel
theorem dX9_runCommands_79 : decode cX9_runCommands 79 = .ok (.getfield 251, 3) := by decide +kernel
theorem dX9_runCommands_82 : decode cX9_runCommands 82 = .ok (.aload_n 0, 1) := by decide +kernel
theorem dX9_runCommands_83 : decode cX9_runCommands 83 = .ok (.getfield 38, 3) := by decide +kernel
theorem dX9_runCommands_86 : decode cX9_runCommands 86 = .ok (.getfield 255, 3) := by decide +kernel
theorem dX9_runCommands_89 : decode cX9_runCommands 89 = .ok (.invokevirtual 256, 3) := by decide +kernel
theorem dX9_runCommands_92 : decode cX9_runCommands 92 = .ok (.ifCond .ne 5, 3) := by decide +kernel
theorem dX9_runCommands_95 : decode cX9_runCommands 95 = .ok (.iload_n 2, 1) := by decide +kernel
theorem dX9_runCommands_96 : decode cX9_runCommands 96 = .ok (.ireturn, 1) := by decide +kernel
theorem dX9_runCommands_97 : decode cX9_runCommands 97 = .ok (.iinc 2 1, 3) := by decide +kernel
theorem dX9_runCommands_100 : decode cX9_runCommands 100 = .ok (.iinc 3 1, 3) := by decide +kernel
theorem dX9_runCommands_103 : decode cX9_runCommands 103 = .ok (.goto (-66), 3) := by decide +kernel
theorem dX9_runCommands_106 : decode cX9_runCommands 106 = .ok (.iload_n 2, 1) := by decide +kernel
theorem dX9_runCommands_107 : decode cX9_runCommands 107 = .ok (.ireturn, 1) := by decide +kernel
theorem cc_X9_runCommands_X2_faultOf : CallC tX9_runCommands tX2_faultOf 1 := ⟨by decide +kernel, by decide +kernel, by decide +kernel, by decide, by decide, qw_77, qw_477⟩
theorem cc_X9_runCommands_X9_save : CallC tX9_runCommands tX9_save 0 := ⟨by decide +kernel, by decide +kernel, by decide +kernel, by decide, by decide, qw_70, qw_577⟩
theorem cc_X9_runCommands_X2_begin : CallC tX9_runCommands tX2_begin 0 := ⟨by decide +kernel, by decide +kernel, by decide +kernel, by decide, by decide, qw_77, qw_481⟩
theorem cc_X9_runCommands_X2_take : CallC tX9_runCommands tX2_take 2 := ⟨by decide +kernel, by decide +kernel, by decide +kernel, by decide, by decide, qw_77, qw_485⟩
theorem cc_X9_runCommands_X3_byteAt : CallC tX9_runCommands tX3_byteAt 1 := ⟨by decide +kernel, by decide +kernel, by decide +kernel, by decide, by decide, qw_76, qw_489⟩
theorem cc_X9_runCommands_X9_carryOut : CallC tX9_runCommands tX9_carryOut 2 := ⟨by decide +kernel, by decide +kernel, by decide +kernel, by decide, by decide, qw_70, qw_588⟩
def kX9_runCommands : Nat → WOp := cN 48 (cN 22 (cN 12 (cN 4 (cN 0 (cL 0 (o_aload 1 0)) (cN 1 (cL 1 (o_getf 4 7 6)) (cL 4 (o_aload 5 0)))) (cN 8 (cN 5 (cL 5 (o_getf 8 7 5)) (cL 8 (o_callV 11 1 1 tX2_faultOf 0 0))) (cN 11 (cL 11 (o_istore 12 1)) (cL 12 (o_iload 13 1))))) (cN 17 (cN 13 (cL 13 (o_push 14 (-1))) (cN 14 (cL 14 (o_icmp_eq 22 17)) (cL 17 (o_push 19 (-10))))) (cN 20 (cN 19 (cL 19 (o_iload 20 1)) (cL 20 (o_isub 21))) (cN 21 (cL 21 (o_iret)) (cL 22 (o_aload 23 0)))))) (cN 35 (cN 27 (cN 23 (cL 23 (o_callV 26 7 0 tX9_save 0 0)) (cN 26 (cL 26 (o_aload 27 0)) (cL 27 (o_getf 30 7 6)))) (cN 33 (cN 30 (cL 30 (o_callV 33 1 0 tX2_begin 0 0)) (cL 33 (o_push 34 0))) (cN 34 (cL 34 (o_istore 35 2)) (cL 35 (o_push 36 0))))) (cN 38 (cN 36 (cL 36 (o_istore 37 3)) (cN 37 (cL 37 (o_iload 38 3)) (cL 38 (o_aload 39 0)))) (cN 42 (cN 39 (cL 39 (o_getf 42 7 5)) (cL 42 (o_getf 45 2 0))) (cN 45 (cL 45 (o_icmp_ge 106 48)) (cL 48 (o_aload 49 0))))))) (cN 75 (cN 61 (cN 53 (cN 49 (cL 49 (o_getf 52 7 6)) (cN 52 (cL 52 (o_aload 53 0)) (cL 53 (o_getf 56 7 5)))) (cN 57 (cN 56 (cL 56 (o_iload 57 3)) (cL 57 (o_callV 60 1 2 tX2_take 0 0))) (cN 60 (cL 60 (o_pop 61)) (cL 61 (o_aload 62 0))))) (cN 66 (cN 62 (cL 62 (o_getf 65 7 5)) (cN 65 (cL 65 (o_iload 66 3)) (cL 66 (o_callV 69 2 1 tX3_byteAt 0 0)))) (cN 71 (cN 69 (cL 69 (o_push 71 59)) (cL 71 (o_icmp_ne 100 74))) (cN 74 (cL 74 (o_aload 75 0)) (cL 75 (o_aload 76 0)))))) (cN 92 (cN 82 (cN 76 (cL 76 (o_getf 79 7 6)) (cN 79 (cL 79 (o_getf 82 1 0)) (cL 82 (o_aload 83 0)))) (cN 86 (cN 83 (cL 83 (o_getf 86 7 6)) (cL 86 (o_getf 89 1 1))) (cN 89 (cL 89 (o_callV 92 7 2 tX9_carryOut 0 0)) (cL 92 (o_if_ne 97 95))))) (cN 97 (cN 95 (cL 95 (o_iload 96 2)) (cN 96 (cL 96 (o_iret)) (cL 97 (o_iinc 100 2 1)))) (cN 103 (cN 100 (cL 100 (o_iinc 103 3 1)) (cL 103 (o_goto 37))) (cN 106 (cL 106 (o_iload 107 2)) (cL 107 (o_iret)))))))
theorem sX9_runCommands : ∀ pc, Snd tX9_runCommands G1 pc (kX9_runCommands pc) := s_N (s_N (s_N (s_N (s_N (s_L (s_aload_n dX9_runCommands_0 rfl)) (s_N (s_L (s_getf ok_7 (k := 6) (by decide) dX9_runCommands_1 qw_325)) (s_L (s_aload_n dX9_runCommands_4 rfl)))) (s_N (s_N (s_L (s_getf ok_7 (k := 5) (by decide) dX9_runCommands_5 qw_324)) (s_L (s_callV (d' := tX2_faultOf) (mc := 0) (ms := 0) ok_1 cc_X9_runCommands_X2_faultOf qw_474 qw_475 qw_476 dX9_runCommands_8))) (s_N (s_L (s_istore_n dX9_runCommands_11 rfl (by decide))) (s_L (s_iload_n dX9_runCommands_12 rfl))))) (s_N (s_N (s_L (s_iconst dX9_runCommands_13 (by decide +kernel))) (s_N (s_L (s_o_icmp_eq dX9_runCommands_14 (by decide))) (s_L (s_bipush dX9_runCommands_17 (by decide +kernel))))) (s_N (s_N (s_L (s_iload_n dX9_runCommands_19 rfl)) (s_L (s_o_isub dX9_runCommands_20))) (s_N (s_L (s_iret rfl dX9_runCommands_21)) (s_L (s_aload_n dX9_runCommands_22 rfl)))))) (s_N (s_N (s_N (s_L (s_callV (d' := tX9_save) (mc := 0) (ms := 0) ok_7 cc_X9_runCommands_X9_save qw_574 qw_576 qw_16 dX9_runCommands_23)) (s_N (s_L (s_aload_n dX9_runCommands_26 rfl)) (s_L (s_getf ok_7 (k := 6) (by decide) dX9_runCommands_27 qw_325)))) (s_N (s_N (s_L (s_callV (d' := tX2_begin) (mc := 0) (ms := 0) ok_1 cc_X9_runCommands_X2_begin qw_582 qw_479 qw_480 dX9_runCommands_30)) (s_L (s_iconst dX9_runCommands_33 (by decide +kernel)))) (s_N (s_L (s_istore_n dX9_runCommands_34 rfl (by decide))) (s_L (s_iconst dX9_runCommands_35 (by decide +kernel)))))) (s_N (s_N (s_L (s_istore_n dX9_runCommands_36 rfl (by decide))) (s_N (s_L (s_iload_n dX9_runCommands_37 rfl)) (s_L (s_aload_n dX9_runCommands_38 rfl)))) (s_N (s_N (s_L (s_getf ok_7 (k := 5) (by decide) dX9_runCommands_39 qw_324)) (s_L (s_getf ok_2 (k := 0) (by decide) dX9_runCommands_42 qw_282))) (s_N (s_L (s_o_icmp_ge dX9_runCommands_45 (by decide))) (s_L (s_aload_n dX9_runCommands_48 rfl))))))) (s_N (s_N (s_N (s_N (s_L (s_getf ok_7 (k := 6) (by decide) dX9_runCommands_49 qw_325)) (s_N (s_L (s_aload_n dX9_runCommands_52 rfl)) (s_L (s_getf ok_7 (k := 5) (by decide) dX9_runCommands_53 qw_324)))) (s_N (s_N (s_L (s_iload_n dX9_runCommands_56 rfl)) (s_L (s_callV (d' := tX2_take) (mc := 0) (ms := 0) ok_1 cc_X9_runCommands_X2_take qw_583 qw_483 qw_484 dX9_runCommands_57))) (s_N (s_L (s_o_pop dX9_runCommands_60)) (s_L (s_aload_n dX9_runCommands_61 rfl))))) (s_N (s_N (s_L (s_getf ok_7 (k := 5) (by decide) dX9_runCommands_62 qw_324)) (s_N (s_L (s_iload_n dX9_runCommands_65 rfl)) (s_L (s_callV (d' := tX3_byteAt) (mc := 0) (ms := 0) ok_2 cc_X9_runCommands_X3_byteAt qw_584 qw_487 qw_488 dX9_runCommands_66)))) (s_N (s_N (s_L (s_bipush dX9_runCommands_69 (by decide +kernel))) (s_L (s_o_icmp_ne dX9_runCommands_71 (by decide)))) (s_N (s_L (s_aload_n dX9_runCommands_74 rfl)) (s_L (s_aload_n dX9_runCommands_75 rfl)))))) (s_N (s_N (s_N (s_L (s_getf ok_7 (k := 6) (by decide) dX9_runCommands_76 qw_325)) (s_N (s_L (s_getf ok_1 (k := 0) (by decide) dX9_runCommands_79 qw_299)) (s_L (s_aload_n dX9_runCommands_82 rfl)))) (s_N (s_N (s_L (s_getf ok_7 (k := 6) (by decide) dX9_runCommands_83 qw_325)) (s_L (s_getf ok_1 (k := 1) (by decide) dX9_runCommands_86 qw_301))) (s_N (s_L (s_callV (d' := tX9_carryOut) (mc := 0) (ms := 0) ok_7 cc_X9_runCommands_X9_carryOut qw_585 qw_587 qw_18 dX9_runCommands_89)) (s_L (s_o_if_ne dX9_runCommands_92 (by decide)))))) (s_N (s_N (s_L (s_iload_n dX9_runCommands_95 rfl)) (s_N (s_L (s_iret rfl dX9_runCommands_96)) (s_L (s_iinc (v := 1) dX9_runCommands_97 (by decide +kernel) (by decide))))) (s_N (s_N (s_L (s_iinc (v := 1) dX9_runCommands_100 (by decide +kernel) (by decide))) (s_L (s_o_goto dX9_runCommands_103 (by decide)))) (s_N (s_L (s_iload_n dX9_runCommands_106 rfl)) (s_L (s_iret rfl dX9_runCommands_107)))))))
/-! PlateArm.undo -/
theorem dX9_undo_0 : decode cX9_undo 0 = .ok (.aload_n 0, 1) := by decide +kernel
theorem dX9_undo_1 : decode cX9_undo 1 = .ok (.getfield 260, 3) := by decide +kernel
theorem dX9_undo_4 : decode cX9_undo 4 = .ok (.ifCond .gt 11, 3) := by decide +kernel
theorem dX9_undo_7 : decode cX9_undo 7 = .ok (.new 74, 3) := by decide +kernel
theorem dX9_undo_10 : decode cX9_undo 10 = .ok (.dup, 1) := by decide +kernel
theorem dX9_undo_11 : decode cX9_undo 11 = .ok (.invokespecial 76, 3) := by decide +kernel
theorem dX9_undo_14 : decode cX9_undo 14 = .ok (.athrow, 1) := by decide +kernel
theorem dX9_undo_15 : decode cX9_undo 15 = .ok (.aload_n 0, 1) := by decide +kernel
theorem dX9_undo_16 : decode cX9_undo 16 = .ok (.dup, 1) := by decide +kernel
theorem dX9_undo_17 : decode cX9_undo 17 = .ok (.getfield 260, 3) := by decide +kernel
theorem dX9_undo_20 : decode cX9_undo 20 = .ok (.iconst 1, 1) := by decide +kernel
theorem dX9_undo_21 : decode cX9_undo 21 = .ok (.isub, 1) := by decide +kernel
theorem dX9_undo_22 : decode cX9_undo 22 = .ok (.putfield 260, 3) := by decide +kernel
theorem dX9_undo_25 : decode cX9_undo 25 = .ok (.aload_n 0, 1) := by decide +kernel
theorem dX9_undo_26 : decode cX9_undo 26 = .ok (.getfield 10, 3) := by decide +kernel
theorem dX9_undo_29 : decode cX9_undo 29 = .ok (.aload_n 0, 1) := by decide +kernel
theorem dX9_undo_30 : decode cX9_undo 30 = .ok (.getfield 19, 3) := by decide +kernel
theorem dX9_undo_33 : decode cX9_undo 33 = .ok (.aload_n 0, 1) := by decide +kernel
theorem dX9_undo_34 : decode cX9_undo 34 = .ok (.getfield 260, 3) := by decide +kernel
theorem dX9_undo_37 : decode cX9_undo 37 = .ok (.aaload, 1) := by decide +kernel
theorem dX9_undo_38 : decode cX9_undo 38 = .ok (.invokevirtual 124, 3) := by decide +kernel
theorem dX9_undo_41 : decode cX9_undo 41 = .ok (.aload_n 0, 1) := by decide +kernel
theorem dX9_undo_42 : decode cX9_undo 42 = .ok (.getfield 260, 3) := by decide +kernel
theorem dX9_undo_45 : decode cX9_undo 45 = .ok (.ireturn, 1) := by decide +kernel
theorem thr_X9_undo_7 : ThrOk tX9_undo 74 76 "java/lang/IllegalStateException" := ⟨thf_76.1, qw_816, qw_86, thf_76.2.1, thf_76.2.2.1, thf_76.2.2.2.1, thf_76.2.2.2.2, by decide, by decide⟩
theorem cc_X9_undo_X6_copyFrom : CallC tX9_undo tX6_copyFrom 1 := ⟨by decide +kernel, by decide +kernel, by decide +kernel, by decide, by decide, qw_71, qw_356⟩
def kX9_undo : Nat → WOp := cN 22 (cN 10 (cN 1 (cN 0 (cL 0 (o_aload 1 0)) (cL 1 (o_getf 4 7 3))) (cN 4 (cL 4 (o_if_gt 15 7)) (cN 7 (cL 7 (o_throw "java/lang/IllegalStateException")) (cL 10 (o_dup 11))))) (cN 17 (cN 15 (cL 15 (o_aload 16 0)) (cN 16 (cL 16 (o_dup 17)) (cL 17 (o_getf 20 7 3)))) (cN 20 (cL 20 (o_push 21 1)) (cN 21 (cL 21 (o_isub 22)) (cL 22 (o_puti 25 7 3)))))) (cN 33 (cN 26 (cN 25 (cL 25 (o_aload 26 0)) (cL 26 (o_getf 29 7 0))) (cN 29 (cL 29 (o_aload 30 0)) (cN 30 (cL 30 (o_getf 33 7 2)) (cL 33 (o_aload 34 0))))) (cN 38 (cN 34 (cL 34 (o_getf 37 7 3)) (cN 37 (cL 37 (o_aald 38 3)) (cL 38 (o_callV 41 5 1 tX6_copyFrom 0 0)))) (cN 41 (cL 41 (o_aload 42 0)) (cN 42 (cL 42 (o_getf 45 7 3)) (cL 45 (o_iret))))))
theorem sX9_undo : ∀ pc, Snd tX9_undo G1 pc (kX9_undo pc) := s_N (s_N (s_N (s_N (s_L (s_aload_n dX9_undo_0 rfl)) (s_L (s_getf ok_7 (k := 3) (by decide) dX9_undo_1 qw_322))) (s_N (s_L (s_o_if_gt dX9_undo_4 (by decide))) (s_N (s_L (s_throw (thr_X9_undo_7) dX9_undo_7 dX9_undo_10 dX9_undo_11 dX9_undo_14)) (s_L (s_o_dup dX9_undo_10))))) (s_N (s_N (s_L (s_aload_n dX9_undo_15 rfl)) (s_N (s_L (s_o_dup dX9_undo_16)) (s_L (s_getf ok_7 (k := 3) (by decide) dX9_undo_17 qw_322)))) (s_N (s_L (s_iconst dX9_undo_20 (by decide +kernel))) (s_N (s_L (s_o_isub dX9_undo_21)) (s_L (s_puti ok_7 (k := 3) (by decide) rfl (Or.inl rfl) dX9_undo_22 qw_322)))))) (s_N (s_N (s_N (s_L (s_aload_n dX9_undo_25 rfl)) (s_L (s_getf ok_7 (k := 0) (by decide) dX9_undo_26 qw_319))) (s_N (s_L (s_aload_n dX9_undo_29 rfl)) (s_N (s_L (s_getf ok_7 (k := 2) (by decide) dX9_undo_30 qw_321)) (s_L (s_aload_n dX9_undo_33 rfl))))) (s_N (s_N (s_L (s_getf ok_7 (k := 3) (by decide) dX9_undo_34 qw_322)) (s_N (s_L (s_aald (by decide) dX9_undo_37)) (s_L (s_callV (d' := tX6_copyFrom) (mc := 0) (ms := 0) ok_5 cc_X9_undo_X6_copyFrom qw_353 qw_354 qw_355 dX9_undo_38)))) (s_N (s_L (s_aload_n dX9_undo_41 rfl)) (s_N (s_L (s_getf ok_7 (k := 3) (by decide) dX9_undo_42 qw_322)) (s_L (s_iret rfl dX9_undo_45))))))
/-! PlateArm.digest -/
theorem dX9_digest_0 : decode cX9_digest 0 = .ok (.ldc2_w 263, 3) := by decide +kernel
theorem dX9_digest_3 : decode cX9_digest 3 = .ok (.aload_n 0, 1) := by decide +kernel
theorem dX9_digest_4 : decode cX9_digest 4 = .ok (.getfield 260, 3) := by decide +kernel
theorem dX9_digest_7 : decode cX9_digest 7 = .ok (.i2l, 1) := by decide +kernel
theorem dX9_digest_8 : decode cX9_digest 8 = .ok (.ladd, 1) := by decide +kernel
theorem dX9_digest_9 : decode cX9_digest 9 = .ok (.lstore_n 1, 1) := by decide +kernel
theorem dX9_digest_10 : decode cX9_digest 10 = .ok (.iconst 0, 1) := by decide +kernel
theorem dX9_digest_11 : decode cX9_digest 11 = .ok (.istore_n 3, 1) := by decide +kernel
theorem dX9_digest_12 : decode cX9_digest 12 = .ok (.iload_n 3, 1) := by decide +kernel
theorem dX9_digest_13 : decode cX9_digest 13 = .ok (.bipush 18, 2) := by decide +kernel
theorem dX9_digest_15 : decode cX9_digest 15 = .ok (.if_icmp .ge 22, 3) := by decide +kernel
theorem dX9_digest_18 : decode cX9_digest 18 = .ok (.ldc2_w 265, 3) := by decide +kernel
theorem dX9_digest_21 : decode cX9_digest 21 = .ok (.lload_n 1, 1) := by decide +kernel
theorem dX9_digest_22 : decode cX9_digest 22 = .ok (.lmul, 1) := by decide +kernel
theorem dX9_digest_23 : decode cX9_digest 23 = .ok (.aload_n 0, 1) := by decide +kernel
theorem dX9_digest_24 : decode cX9_digest 24 = .ok (.iload_n 3, 1) := by decide +kernel
theorem dX9_digest_25 : decode cX9_digest 25 = .ok (.invokevirtual 267, 3) := by decide +kernel
theorem dX9_digest_28 : decode cX9_digest 28 = .ok (.i2l, 1) := by decide +kernel
theorem dX9_digest_29 : decode cX9_digest 29 = .ok (.ladd, 1) := by decide +kernel
theorem dX9_digest_30 : decode cX9_digest 30 = .ok (.lstore_n 1, 1) := by decide +kernel
theorem dX9_digest_31 : decode cX9_digest 31 = .ok (.iinc 3 1, 3) := by decide +kernel
theorem dX9_digest_34 : decode cX9_digest 34 = .ok (.goto (-22), 3) := by decide +kernel
theorem dX9_digest_37 : decode cX9_digest 37 = .ok (.iconst 0, 1) := by decide +kernel
theorem dX9_digest_38 : decode cX9_digest 38 = .ok (.istore_n 3, 1) := by decide +kernel
theorem dX9_digest_39 : decode cX9_digest 39 = .ok (.iload_n 3, 1) := by decide +kernel
theorem dX9_digest_40 : decode cX9_digest 40 = .ok (.bipush 6, 2) := by decide +kernel
theorem dX9_digest_42 : decode cX9_digest 42 = .ok (.if_icmp .ge 22, 3) := by decide +kernel
theorem dX9_digest_45 : decode cX9_digest 45 = .ok (.ldc2_w 265, 3) := by decide +kernel
theorem dX9_digest_48 : decode cX9_digest 48 = .ok (.lload_n 1, 1) := by decide +kernel
theorem dX9_digest_49 : decode cX9_digest 49 = .ok (.lmul, 1) := by decide +kernel
theorem dX9_digest_50 : decode cX9_digest 50 = .ok (.aload_n 0, 1) := by decide +kernel
theorem dX9_digest_51 : decode cX9_digest 51 = .ok (.iload_n 3, 1) := by decide +kernel
theorem dX9_digest_52 : decode cX9_digest 52 = .ok (.invokevirtual 270, 3) := by decide +kernel
theorem dX9_digest_55 : decode cX9_digest 55 = .ok (.i2l, 1) := by decide +kernel
theorem dX9_digest_56 : decode cX9_digest 56 = .ok (.ladd, 1) := by decide +kernel
theorem dX9_digest_57 : decode cX9_digest 57 = .ok (.lstore_n 1, 1) := by decide +kernel
theorem dX9_digest_58 : decode cX9_digest 58 = .ok (.iinc 3 1, 3) := by decide +kernel
theorem dX9_digest_61 : decode cX9_digest 61 = .ok (.goto (-22), 3) := by decide +kernel
theorem dX9_digest_64 : decode cX9_digest 64 = .ok (.aload_n 0, 1) := by decide +kernel
theorem dX9_digest_65 : decode cX9_digest 65 = .ok (.aload_n 0, 1) := by decide +kernel
theorem dX9_digest_66 : decode cX9_digest 66 = .ok (.lload_n 1, 1) := by decide +kernel
theorem dX9_digest_67 : decode cX9_digest 67 = .ok (.invokevirtual 272, 3) := by decide +kernel
theorem dX9_digest_70 : decode cX9_digest 70 = .ok (.invokevirtual 276, 3) := by decide +kernel
theorem dX9_digest_73 : decode cX9_digest 73 = .ok (.lstore_n 1, 1) := by decide +kernel
theorem dX9_digest_74 : decode cX9_digest 74 = .ok (.aload_n 0, 1) := by decide +kernel
theorem dX9_digest_75 : decode cX9_digest 75 = .ok (.invokevirtual 221, 3) := by decide +kernel
theorem dX9_digest_78 : decode cX9_digest 78 = .ok (.aload_n 0, 1) := by decide +kernel
theorem dX9_digest_79 : decode cX9_digest 79 = .ok (.lload_n 1, 1) := by decide +kernel
theorem dX9_digest_80 : decode cX9_digest 80 = .ok (.invokevirtual 279, 3) := by decide +kernel
theorem dX9_digest_83 : decode cX9_digest 83 = .ok (.lstore_n 1, 1) := by decide +kernel
theorem dX9_digest_84 : decode cX9_digest 84 = .ok (.ldc2_w 265, 3) := by decide +kernel
theorem dX9_digest_87 : decode cX9_digest 87 = .ok (.lload_n 1, 1) := by decide +kernel
theorem dX9_digest_88 : decode cX9_digest 88 = .ok (.lmul, 1) := by decide +kernel
theorem dX9_digest_89 : decode cX9_digest 89 = .ok (.aload_n 0, 1) := by decide +kernel
theorem dX9_digest_90 : decode cX9_digest 90 = .ok (.invokevirtual 224, 3) := by decide +kernel
theorem dX9_digest_93 : decode cX9_digest 93 = .ok (.i2l, 1) := by decide +kernel
theorem dX9_digest_94 : decode cX9_digest 94 = .ok (.ladd, 1) := by decide +kernel
theorem dX9_digest_95 : decode cX9_digest 95 = .ok (.lstore_n 1, 1) := by decide +kernel
theorem dX9_digest_96 : decode cX9_digest 96 = .ok (.ldc2_w 265, 3) := by decide +kernel
theorem dX9_digest_99 : decode cX9_digest 99 = .ok (.lload_n 1, 1) := by decide +kernel
theorem dX9_digest_100 : decode cX9_digest 100 = .ok (.lmul, 1) := by decide +kernel
theorem dX9_digest_101 : decode cX9_digest 101 = .ok (.aload_n 0, 1) := by decide +kernel
theorem dX9_digest_102 : decode cX9_digest 102 = .ok (.bipush 10, 2) := by decide +kernel
theorem dX9_digest_104 : decode cX9_digest 104 = .ok (.invokevirtual 282, 3) := by decide +kernel
theorem dX9_digest_107 : decode cX9_digest 107 = .ok (.i2l, 1) := by decide +kernel
theorem dX9_digest_108 : decode cX9_digest 108 = .ok (.ladd, 1) := by decide +kernel
theorem dX9_digest_109 : decode cX9_digest 109 = .ok (.lstore_n 1, 1) := by decide +kernel
theorem dX9_digest_110 : decode cX9_digest 110 = .ok (.ldc2_w 265, 3) := by decide +kernel
theorem dX9_digest_113 : decode cX9_digest 113 = .ok (.lload_n 1, 1) := by decide +kernel
theorem dX9_digest_114 : decode cX9_digest 114 = .ok (.lmul, 1) := by decide +kernel
theorem dX9_digest_115 : decode cX9_digest 115 = .ok (.aload_n 0, 1) := by decide +kernel
theorem dX9_digest_116 : decode cX9_digest 116 = .ok (.invokevirtual 285, 3) := by decide +kernel
theorem dX9_digest_119 : decode cX9_digest 119 = .ok (.i2l, 1) := by decide +kernel
theorem dX9_digest_120 : decode cX9_digest 120 = .ok (.ladd, 1) := by decide +kernel
theorem dX9_digest_121 : decode cX9_digest 121 = .ok (.lreturn, 1) := by decide +kernel
theorem cc_X9_digest_X9_whole : CallC tX9_digest tX9_whole 1 := ⟨by decide +kernel, by decide +kernel, by decide +kernel, by decide, by decide, qw_70, qw_689⟩
theorem cc_X9_digest_X9_arm : CallC tX9_digest tX9_arm 1 := ⟨by decide +kernel, by decide +kernel, by decide +kernel, by decide, by decide, qw_70, qw_756⟩
theorem cc_X9_digest_X9_mixRequests : CallC tX9_digest tX9_mixRequests 1 := ⟨by decide +kernel, by decide +kernel, by decide +kernel, by decide, by decide, qw_70, qw_761⟩
theorem cc_X9_digest_X9_mixLog : CallC tX9_digest tX9_mixLog 1 := ⟨by decide +kernel, by decide +kernel, by decide +kernel, by decide, by decide, qw_70, qw_770⟩
theorem cc_X9_digest_X9_forecastAll : CallC tX9_digest tX9_forecastAll 0 := ⟨by decide +kernel, by decide +kernel, by decide +kernel, by decide, by decide, qw_70, qw_348⟩
theorem cc_X9_digest_X9_mixForecasts : CallC tX9_digest tX9_mixForecasts 1 := ⟨by decide +kernel, by decide +kernel, by decide +kernel, by decide, by decide, qw_70, qw_783⟩
theorem cc_X9_digest_X9_bestForecast : CallC tX9_digest tX9_bestForecast 0 := ⟨by decide +kernel, by decide +kernel, by decide +kernel, by decide, by decide, qw_70, qw_450⟩
theorem cc_X9_digest_X9_heatIn : CallC tX9_digest tX9_heatIn 1 := ⟨by decide +kernel, by decide +kernel, by decide +kernel, by decide, by decide, qw_70, qw_798⟩
theorem cc_X9_digest_X9_widest : CallC tX9_digest tX9_widest 0 := ⟨by decide +kernel, by decide +kernel, by decide +kernel, by decide, by decide, qw_70, qw_457⟩
def kX9_digest : Nat → WOp := cN 58 (cN 28 (cN 12 (cN 7 (cN 3 (cN 0 (cL 0 (o_lpush 3 1361086)) (cL 3 (o_aload 4 0))) (cN 4 (cL 4 (o_getf 7 7 3)) (cL 7 (o_i2l 8)))) (cN 9 (cN 8 (cL 8 (o_ladd 9)) (cL 9 (o_lstore 10 1))) (cN 10 (cL 10 (o_push 11 0)) (cN 11 (cL 11 (o_istore 12 3)) (cL 12 (o_iload 13 3)))))) (cN 21 (cN 15 (cN 13 (cL 13 (o_push 15 18)) (cL 15 (o_icmp_ge 37 18))) (cN 18 (cL 18 (o_lpush 21 31)) (cL 21 (o_lload 22 1)))) (cN 23 (cN 22 (cL 22 (o_lmul 23)) (cL 23 (o_aload 24 0))) (cN 24 (cL 24 (o_iload 25 3)) (cN 25 (cL 25 (o_callV 28 7 1 tX9_whole 0 0)) (cL 28 (o_i2l 29))))))) (cN 42 (cN 34 (cN 30 (cN 29 (cL 29 (o_ladd 30)) (cL 30 (o_lstore 31 1))) (cN 31 (cL 31 (o_iinc 34 3 1)) (cL 34 (o_goto 12)))) (cN 38 (cN 37 (cL 37 (o_push 38 0)) (cL 38 (o_istore 39 3))) (cN 39 (cL 39 (o_iload 40 3)) (cN 40 (cL 40 (o_push 42 6)) (cL 42 (o_icmp_ge 64 45)))))) (cN 51 (cN 48 (cN 45 (cL 45 (o_lpush 48 31)) (cL 48 (o_lload 49 1))) (cN 49 (cL 49 (o_lmul 50)) (cN 50 (cL 50 (o_aload 51 0)) (cL 51 (o_iload 52 3))))) (cN 55 (cN 52 (cL 52 (o_callV 55 7 1 tX9_arm 0 0)) (cL 55 (o_i2l 56))) (cN 56 (cL 56 (o_ladd 57)) (cN 57 (cL 57 (o_lstore 58 1)) (cL 58 (o_iinc 61 3 1)))))))) (cN 93 (cN 75 (cN 66 (cN 64 (cN 61 (cL 61 (o_goto 39)) (cL 64 (o_aload 65 0))) (cN 65 (cL 65 (o_aload 66 0)) (cL 66 (o_lload 67 1)))) (cN 70 (cN 67 (cL 67 (o_callV 70 7 1 tX9_mixRequests 0 0)) (cL 70 (o_callV 73 7 1 tX9_mixLog 0 0))) (cN 73 (cL 73 (o_lstore 74 1)) (cN 74 (cL 74 (o_aload 75 0)) (cL 75 (o_callV 78 7 0 tX9_forecastAll 0 0)))))) (cN 84 (cN 79 (cN 78 (cL 78 (o_aload 79 0)) (cL 79 (o_lload 80 1))) (cN 80 (cL 80 (o_callV 83 7 1 tX9_mixForecasts 0 0)) (cN 83 (cL 83 (o_lstore 84 1)) (cL 84 (o_lpush 87 31))))) (cN 88 (cN 87 (cL 87 (o_lload 88 1)) (cL 88 (o_lmul 89))) (cN 89 (cL 89 (o_aload 90 0)) (cN 90 (cL 90 (o_callV 93 7 0 tX9_bestForecast 0 0)) (cL 93 (o_i2l 94))))))) (cN 107 (cN 99 (cN 95 (cN 94 (cL 94 (o_ladd 95)) (cL 95 (o_lstore 96 1))) (cN 96 (cL 96 (o_lpush 99 31)) (cL 99 (o_lload 100 1)))) (cN 101 (cN 100 (cL 100 (o_lmul 101)) (cL 101 (o_aload 102 0))) (cN 102 (cL 102 (o_push 104 10)) (cN 104 (cL 104 (o_callV 107 7 1 tX9_heatIn 0 0)) (cL 107 (o_i2l 108)))))) (cN 114 (cN 109 (cN 108 (cL 108 (o_ladd 109)) (cL 109 (o_lstore 110 1))) (cN 110 (cL 110 (o_lpush 113 31)) (cN 113 (cL 113 (o_lload 114 1)) (cL 114 (o_lmul 115))))) (cN 116 (cN 115 (cL 115 (o_aload 116 0)) (cL 116 (o_callV 119 7 0 tX9_widest 0 0))) (cN 119 (cL 119 (o_i2l 120)) (cN 120 (cL 120 (o_ladd 121)) (cL 121 (o_lret))))))))
theorem sX9_digest : ∀ pc, Snd tX9_digest G1 pc (kX9_digest pc) := s_N (s_N (s_N (s_N (s_N (s_N (s_L (s_ldc2 dX9_digest_0 qw_684)) (s_L (s_aload_n dX9_digest_3 rfl))) (s_N (s_L (s_getf ok_7 (k := 3) (by decide) dX9_digest_4 qw_322)) (s_L (s_o_i2l dX9_digest_7)))) (s_N (s_N (s_L (s_o_ladd dX9_digest_8)) (s_L (s_lstore_n dX9_digest_9 rfl (by decide)))) (s_N (s_L (s_iconst dX9_digest_10 (by decide +kernel))) (s_N (s_L (s_istore_n dX9_digest_11 rfl (by decide))) (s_L (s_iload_n dX9_digest_12 rfl)))))) (s_N (s_N (s_N (s_L (s_bipush dX9_digest_13 (by decide +kernel))) (s_L (s_o_icmp_ge dX9_digest_15 (by decide)))) (s_N (s_L (s_ldc2 dX9_digest_18 qw_685)) (s_L (s_lload_n dX9_digest_21 rfl)))) (s_N (s_N (s_L (s_o_lmul dX9_digest_22)) (s_L (s_aload_n dX9_digest_23 rfl))) (s_N (s_L (s_iload_n dX9_digest_24 rfl)) (s_N (s_L (s_callV (d' := tX9_whole) (mc := 0) (ms := 0) ok_7 cc_X9_digest_X9_whole qw_686 qw_687 qw_688 dX9_digest_25)) (s_L (s_o_i2l dX9_digest_28))))))) (s_N (s_N (s_N (s_N (s_L (s_o_ladd dX9_digest_29)) (s_L (s_lstore_n dX9_digest_30 rfl (by decide)))) (s_N (s_L (s_iinc (v := 1) dX9_digest_31 (by decide +kernel) (by decide))) (s_L (s_o_goto dX9_digest_34 (by decide))))) (s_N (s_N (s_L (s_iconst dX9_digest_37 (by decide +kernel))) (s_L (s_istore_n dX9_digest_38 rfl (by decide)))) (s_N (s_L (s_iload_n dX9_digest_39 rfl)) (s_N (s_L (s_bipush dX9_digest_40 (by decide +kernel))) (s_L (s_o_icmp_ge dX9_digest_42 (by decide))))))) (s_N (s_N (s_N (s_L (s_ldc2 dX9_digest_45 qw_685)) (s_L (s_lload_n dX9_digest_48 rfl))) (s_N (s_L (s_o_lmul dX9_digest_49)) (s_N (s_L (s_aload_n dX9_digest_50 rfl)) (s_L (s_iload_n dX9_digest_51 rfl))))) (s_N (s_N (s_L (s_callV (d' := tX9_arm) (mc := 0) (ms := 0) ok_7 cc_X9_digest_X9_arm qw_753 qw_754 qw_755 dX9_digest_52)) (s_L (s_o_i2l dX9_digest_55))) (s_N (s_L (s_o_ladd dX9_digest_56)) (s_N (s_L (s_lstore_n dX9_digest_57 rfl (by decide))) (s_L (s_iinc (v := 1) dX9_digest_58 (by decide +kernel) (by decide))))))))) (s_N (s_N (s_N (s_N (s_N (s_L (s_o_goto dX9_digest_61 (by decide))) (s_L (s_aload_n dX9_digest_64 rfl))) (s_N (s_L (s_aload_n dX9_digest_65 rfl)) (s_L (s_lload_n dX9_digest_66 rfl)))) (s_N (s_N (s_L (s_callV (d' := tX9_mixRequests) (mc := 0) (ms := 0) ok_7 cc_X9_digest_X9_mixRequests qw_758 qw_760 qw_27 dX9_digest_67)) (s_L (s_callV (d' := tX9_mixLog) (mc := 0) (ms := 0) ok_7 cc_X9_digest_X9_mixLog qw_767 qw_769 qw_29 dX9_digest_70))) (s_N (s_L (s_lstore_n dX9_digest_73 rfl (by decide))) (s_N (s_L (s_aload_n dX9_digest_74 rfl)) (s_L (s_callV (d' := tX9_forecastAll) (mc := 0) (ms := 0) ok_7 cc_X9_digest_X9_forecastAll qw_345 qw_347 qw_0 dX9_digest_75)))))) (s_N (s_N (s_N (s_L (s_aload_n dX9_digest_78 rfl)) (s_L (s_lload_n dX9_digest_79 rfl))) (s_N (s_L (s_callV (d' := tX9_mixForecasts) (mc := 0) (ms := 0) ok_7 cc_X9_digest_X9_mixForecasts qw_780 qw_782 qw_30 dX9_digest_80)) (s_N (s_L (s_lstore_n dX9_digest_83 rfl (by decide))) (s_L (s_ldc2 dX9_digest_84 qw_685))))) (s_N (s_N (s_L (s_lload_n dX9_digest_87 rfl)) (s_L (s_o_lmul dX9_digest_88))) (s_N (s_L (s_aload_n dX9_digest_89 rfl)) (s_N (s_L (s_callV (d' := tX9_bestForecast) (mc := 0) (ms := 0) ok_7 cc_X9_digest_X9_bestForecast qw_447 qw_449 qw_10 dX9_digest_90)) (s_L (s_o_i2l dX9_digest_93))))))) (s_N (s_N (s_N (s_N (s_L (s_o_ladd dX9_digest_94)) (s_L (s_lstore_n dX9_digest_95 rfl (by decide)))) (s_N (s_L (s_ldc2 dX9_digest_96 qw_685)) (s_L (s_lload_n dX9_digest_99 rfl)))) (s_N (s_N (s_L (s_o_lmul dX9_digest_100)) (s_L (s_aload_n dX9_digest_101 rfl))) (s_N (s_L (s_bipush dX9_digest_102 (by decide +kernel))) (s_N (s_L (s_callV (d' := tX9_heatIn) (mc := 0) (ms := 0) ok_7 cc_X9_digest_X9_heatIn qw_795 qw_796 qw_797 dX9_digest_104)) (s_L (s_o_i2l dX9_digest_107)))))) (s_N (s_N (s_N (s_L (s_o_ladd dX9_digest_108)) (s_L (s_lstore_n dX9_digest_109 rfl (by decide)))) (s_N (s_L (s_ldc2 dX9_digest_110 qw_685)) (s_N (s_L (s_lload_n dX9_digest_113 rfl)) (s_L (s_o_lmul dX9_digest_114))))) (s_N (s_N (s_L (s_aload_n dX9_digest_115 rfl)) (s_L (s_callV (d' := tX9_widest) (mc := 0) (ms := 0) ok_7 cc_X9_digest_X9_widest qw_799 qw_455 qw_456 dX9_digest_116))) (s_N (s_L (s_o_i2l dX9_digest_119)) (s_N (s_L (s_o_ladd dX9_digest_120)) (s_L (s_lret rfl dX9_digest_121))))))))
/-! PlateArm.mixRequests -/
theorem dX9_mixRequests_0 : decode cX9_mixRequests 0 = .ok (.lload_n 1, 1) := by decide +kernel
theorem dX9_mixRequests_1 : decode cX9_mixRequests 1 = .ok (.lstore_n 3, 1) := by decide +kernel
theorem dX9_mixRequests_2 : decode cX9_mixRequests 2 = .ok (.iconst 0, 1) := by decide +kernel
theorem dX9_mixRequests_3 : decode cX9_mixRequests 3 = .ok (.istore 5, 2) := by decide +kernel
theorem dX9_mixRequests_5 : decode cX9_mixRequests 5 = .ok (.iload 5, 2) := by decide +kernel
theorem dX9_mixRequests_7 : decode cX9_mixRequests 7 = .ok (.aload_n 0, 1) := by decide +kernel
theorem dX9_mixRequests_8 : decode cX9_mixRequests 8 = .ok (.getfield 10, 3) := by decide +kernel
theorem dX9_mixRequests_11 : decode cX9_mixRequests 11 = .ok (.getfield 52, 3) := by decide +kernel
theorem dX9_mixRequests_14 : decode cX9_mixRequests 14 = .ok (.getfield 56, 3) := by decide +kernel
theorem dX9_mixRequests_17 : decode cX9_mixRequests 17 = .ok (.if_icmp .ge 62, 3) := by decide +kernel
theorem dX9_mixRequests_20 : decode cX9_mixRequests 20 = .ok (.ldc2_w 265, 3) := by decide +kernel
theorem dX9_mixRequests_23 : decode cX9_mixRequests 23 = .ok (.lload_n 3, 1) := by decide +kernel
theorem dX9_mixRequests_24 : decode cX9_mixRequests 24 = .ok (.lmul, 1) := by decide +kernel
theorem dX9_mixRequests_25 : decode cX9_mixRequests 25 = .ok (.aload_n 0, 1) := by decide +kernel
theorem dX9_mixRequests_26 : decode cX9_mixRequests 26 = .ok (.getfield 10, 3) := by decide +kernel
theorem dX9_mixRequests_29 : decode cX9_mixRequests 29 = .ok (.getfield 52, 3) := by decide +kernel
theorem dX9_mixRequests_32 : decode cX9_mixRequests 32 = .ok (.getfield 136, 3) := by decide +kernel
theorem dX9_mixRequests_35 : decode cX9_mixRequests 35 = .ok (.iload 5, 2) := by decide +kernel
theorem dX9_mixRequests_37 : decode cX9_mixRequests 37 = .ok (.iaload, 1) := by decide +kernel
theorem dX9_mixRequests_38 : decode cX9_mixRequests 38 = .ok (.i2l, 1) := by decide +kernel
theorem dX9_mixRequests_39 : decode cX9_mixRequests 39 = .ok (.ladd, 1) := by decide +kernel
theorem dX9_mixRequests_40 : decode cX9_mixRequests 40 = .ok (.lstore_n 3, 1) := by decide +kernel
theorem dX9_mixRequests_41 : decode cX9_mixRequests 41 = .ok (.iconst 0, 1) := by decide +kernel
theorem dX9_mixRequests_42 : decode cX9_mixRequests 42 = .ok (.istore 6, 2) := by decide +kernel
theorem dX9_mixRequests_44 : decode cX9_mixRequests 44 = .ok (.iload 6, 2) := by decide +kernel
theorem dX9_mixRequests_46 : decode cX9_mixRequests 46 = .ok (.bipush 6, 2) := by decide +kernel
theorem dX9_mixRequests_48 : decode cX9_mixRequests 48 = .ok (.if_icmp .ge 25, 3) := by decide +kernel
theorem dX9_mixRequests_51 : decode cX9_mixRequests 51 = .ok (.ldc2_w 265, 3) := by decide +kernel
theorem dX9_mixRequests_54 : decode cX9_mixRequests 54 = .ok (.lload_n 3, 1) := by decide +kernel
theorem dX9_mixRequests_55 : decode cX9_mixRequests 55 = .ok (.lmul, 1) := by decide +kernel
theorem dX9_mixRequests_56 : decode cX9_mixRequests 56 = .ok (.aload_n 0, 1) := by decide +kernel
theorem dX9_mixRequests_57 : decode cX9_mixRequests 57 = .ok (.iload 5, 2) := by decide +kernel
theorem dX9_mixRequests_59 : decode cX9_mixRequests 59 = .ok (.iload 6, 2) := by decide +kernel
theorem dX9_mixRequests_61 : decode cX9_mixRequests 61 = .ok (.invokevirtual 132, 3) := by decide +kernel
theorem dX9_mixRequests_64 : decode cX9_mixRequests 64 = .ok (.i2l, 1) := by decide +kernel
theorem dX9_mixRequests_65 : decode cX9_mixRequests 65 = .ok (.ladd, 1) := by decide +kernel
theorem dX9_mixRequests_66 : decode cX9_mixRequests 66 = .ok (.lstore_n 3, 1) := by decide +kernel
theorem dX9_mixRequests_67 : decode cX9_mixRequests 67 = .ok (.iinc 6 1, 3) := by decide +kernel
theorem dX9_mixRequests_70 : decode cX9_mixRequests 70 = .ok (.goto (-26), 3) := by decide +kernel
theorem dX9_mixRequests_73 : decode cX9_mixRequests 73 = .ok (.iinc 5 1, 3) := by decide +kernel
theorem dX9_mixRequests_76 : decode cX9_mixRequests 76 = .ok (.goto (-71), 3) := by decide +kernel
theorem dX9_mixRequests_79 : decode cX9_mixRequests 79 = .ok (.lload_n 3, 1) := by decide +kernel
theorem dX9_mixRequests_80 : decode cX9_mixRequests 80 = .ok (.lreturn, 1) := by decide +kernel
theorem cc_X9_mixRequests_X9_requestValue : CallC tX9_mixRequests tX9_requestValue 2 := ⟨by decide +kernel, by decide +kernel, by decide +kernel, by decide, by decide, qw_70, qw_765⟩
def kX9_mixRequests : Nat → WOp := cN 39 (cN 17 (cN 5 (cN 1 (cN 0 (cL 0 (o_lload 1 1)) (cL 1 (o_lstore 2 3))) (cN 2 (cL 2 (o_push 3 0)) (cN 3 (cL 3 (o_istore 5 5)) (cL 5 (o_iload 7 5))))) (cN 8 (cN 7 (cL 7 (o_aload 8 0)) (cL 8 (o_getf 11 7 0))) (cN 11 (cL 11 (o_getf 14 5 5)) (cN 14 (cL 14 (o_getf 17 4 0)) (cL 17 (o_icmp_ge 79 20)))))) (cN 26 (cN 23 (cN 20 (cL 20 (o_lpush 23 31)) (cL 23 (o_lload 24 3))) (cN 24 (cL 24 (o_lmul 25)) (cN 25 (cL 25 (o_aload 26 0)) (cL 26 (o_getf 29 7 0))))) (cN 35 (cN 29 (cL 29 (o_getf 32 5 5)) (cN 32 (cL 32 (o_getf 35 4 2)) (cL 35 (o_iload 37 5)))) (cN 37 (cL 37 (o_iald 38)) (cN 38 (cL 38 (o_i2l 39)) (cL 39 (o_ladd 40))))))) (cN 57 (cN 46 (cN 41 (cN 40 (cL 40 (o_lstore 41 3)) (cL 41 (o_push 42 0))) (cN 42 (cL 42 (o_istore 44 6)) (cN 44 (cL 44 (o_iload 46 6)) (cL 46 (o_push 48 6))))) (cN 54 (cN 48 (cL 48 (o_icmp_ge 73 51)) (cN 51 (cL 51 (o_lpush 54 31)) (cL 54 (o_lload 55 3)))) (cN 55 (cL 55 (o_lmul 56)) (cN 56 (cL 56 (o_aload 57 0)) (cL 57 (o_iload 59 5)))))) (cN 66 (cN 61 (cN 59 (cL 59 (o_iload 61 6)) (cL 61 (o_callV 64 7 2 tX9_requestValue 0 0))) (cN 64 (cL 64 (o_i2l 65)) (cN 65 (cL 65 (o_ladd 66)) (cL 66 (o_lstore 67 3))))) (cN 73 (cN 67 (cL 67 (o_iinc 70 6 1)) (cN 70 (cL 70 (o_goto 44)) (cL 73 (o_iinc 76 5 1)))) (cN 76 (cL 76 (o_goto 5)) (cN 79 (cL 79 (o_lload 80 3)) (cL 80 (o_lret)))))))
theorem sX9_mixRequests : ∀ pc, Snd tX9_mixRequests G1 pc (kX9_mixRequests pc) := s_N (s_N (s_N (s_N (s_N (s_L (s_lload_n dX9_mixRequests_0 rfl)) (s_L (s_lstore_n dX9_mixRequests_1 rfl (by decide)))) (s_N (s_L (s_iconst dX9_mixRequests_2 (by decide +kernel))) (s_N (s_L (s_istore dX9_mixRequests_3 (by decide))) (s_L (s_iload dX9_mixRequests_5))))) (s_N (s_N (s_L (s_aload_n dX9_mixRequests_7 rfl)) (s_L (s_getf ok_7 (k := 0) (by decide) dX9_mixRequests_8 qw_319))) (s_N (s_L (s_getf ok_5 (k := 5) (by decide) dX9_mixRequests_11 qw_249)) (s_N (s_L (s_getf ok_4 (k := 0) (by decide) dX9_mixRequests_14 qw_149)) (s_L (s_o_icmp_ge dX9_mixRequests_17 (by decide))))))) (s_N (s_N (s_N (s_L (s_ldc2 dX9_mixRequests_20 qw_685)) (s_L (s_lload_n dX9_mixRequests_23 rfl))) (s_N (s_L (s_o_lmul dX9_mixRequests_24)) (s_N (s_L (s_aload_n dX9_mixRequests_25 rfl)) (s_L (s_getf ok_7 (k := 0) (by decide) dX9_mixRequests_26 qw_319))))) (s_N (s_N (s_L (s_getf ok_5 (k := 5) (by decide) dX9_mixRequests_29 qw_249)) (s_N (s_L (s_getf ok_4 (k := 2) (by decide) dX9_mixRequests_32 qw_154)) (s_L (s_iload dX9_mixRequests_35)))) (s_N (s_L (s_iald dX9_mixRequests_37)) (s_N (s_L (s_o_i2l dX9_mixRequests_38)) (s_L (s_o_ladd dX9_mixRequests_39))))))) (s_N (s_N (s_N (s_N (s_L (s_lstore_n dX9_mixRequests_40 rfl (by decide))) (s_L (s_iconst dX9_mixRequests_41 (by decide +kernel)))) (s_N (s_L (s_istore dX9_mixRequests_42 (by decide))) (s_N (s_L (s_iload dX9_mixRequests_44)) (s_L (s_bipush dX9_mixRequests_46 (by decide +kernel)))))) (s_N (s_N (s_L (s_o_icmp_ge dX9_mixRequests_48 (by decide))) (s_N (s_L (s_ldc2 dX9_mixRequests_51 qw_685)) (s_L (s_lload_n dX9_mixRequests_54 rfl)))) (s_N (s_L (s_o_lmul dX9_mixRequests_55)) (s_N (s_L (s_aload_n dX9_mixRequests_56 rfl)) (s_L (s_iload dX9_mixRequests_57)))))) (s_N (s_N (s_N (s_L (s_iload dX9_mixRequests_59)) (s_L (s_callV (d' := tX9_requestValue) (mc := 0) (ms := 0) ok_7 cc_X9_mixRequests_X9_requestValue qw_762 qw_764 qw_28 dX9_mixRequests_61))) (s_N (s_L (s_o_i2l dX9_mixRequests_64)) (s_N (s_L (s_o_ladd dX9_mixRequests_65)) (s_L (s_lstore_n dX9_mixRequests_66 rfl (by decide)))))) (s_N (s_N (s_L (s_iinc (v := 1) dX9_mixRequests_67 (by decide +kernel) (by decide))) (s_N (s_L (s_o_goto dX9_mixRequests_70 (by decide))) (s_L (s_iinc (v := 1) dX9_mixRequests_73 (by decide +kernel) (by decide))))) (s_N (s_L (s_o_goto dX9_mixRequests_76 (by decide))) (s_N (s_L (s_lload_n dX9_mixRequests_79 rfl)) (s_L (s_lret rfl dX9_mixRequests_80)))))))
/-! PlateArm.mixLog -/
theorem dX9_mixLog_0 : decode cX9_mixLog 0 = .ok (.lload_n 1, 1) := by decide +kernel
theorem dX9_mixLog_1 : decode cX9_mixLog 1 = .ok (.lstore_n 3, 1) := by decide +kernel
theorem dX9_mixLog_2 : decode cX9_mixLog 2 = .ok (.iconst 0, 1) := by decide +kernel
theorem dX9_mixLog_3 : decode cX9_mixLog 3 = .ok (.istore 5, 2) := by decide +kernel
theorem dX9_mixLog_5 : decode cX9_mixLog 5 = .ok (.iload 5, 2) := by decide +kernel
theorem dX9_mixLog_7 : decode cX9_mixLog 7 = .ok (.aload_n 0, 1) := by decide +kernel
theorem dX9_mixLog_8 : decode cX9_mixLog 8 = .ok (.getfield 10, 3) := by decide +kernel
theorem dX9_mixLog_11 : decode cX9_mixLog 11 = .ok (.getfield 112, 3) := by decide +kernel
theorem dX9_mixLog_14 : decode cX9_mixLog 14 = .ok (.invokevirtual 139, 3) := by decide +kernel
theorem dX9_mixLog_17 : decode cX9_mixLog 17 = .ok (.if_icmp .ge 46, 3) := by decide +kernel
theorem dX9_mixLog_20 : decode cX9_mixLog 20 = .ok (.iconst 0, 1) := by decide +kernel
theorem dX9_mixLog_21 : decode cX9_mixLog 21 = .ok (.istore 6, 2) := by decide +kernel
theorem dX9_mixLog_23 : decode cX9_mixLog 23 = .ok (.iload 6, 2) := by decide +kernel
theorem dX9_mixLog_25 : decode cX9_mixLog 25 = .ok (.iconst 5, 1) := by decide +kernel
theorem dX9_mixLog_26 : decode cX9_mixLog 26 = .ok (.if_icmp .ge 31, 3) := by decide +kernel
theorem dX9_mixLog_29 : decode cX9_mixLog 29 = .ok (.ldc2_w 265, 3) := by decide +kernel
theorem dX9_mixLog_32 : decode cX9_mixLog 32 = .ok (.lload_n 3, 1) := by decide +kernel
theorem dX9_mixLog_33 : decode cX9_mixLog 33 = .ok (.lmul, 1) := by decide +kernel
theorem dX9_mixLog_34 : decode cX9_mixLog 34 = .ok (.aload_n 0, 1) := by decide +kernel
theorem dX9_mixLog_35 : decode cX9_mixLog 35 = .ok (.getfield 10, 3) := by decide +kernel
theorem dX9_mixLog_38 : decode cX9_mixLog 38 = .ok (.getfield 112, 3) := by decide +kernel
theorem dX9_mixLog_41 : decode cX9_mixLog 41 = .ok (.iload 5, 2) := by decide +kernel
theorem dX9_mixLog_43 : decode cX9_mixLog 43 = .ok (.iload 6, 2) := by decide +kernel
theorem dX9_mixLog_45 : decode cX9_mixLog 45 = .ok (.invokevirtual 142, 3) := by decide +kernel
theorem dX9_mixLog_48 : decode cX9_mixLog 48 = .ok (.i2l, 1) := by decide +kernel
theorem dX9_mixLog_49 : decode cX9_mixLog 49 = .ok (.ladd, 1) := by decide +kernel
theorem dX9_mixLog_50 : decode cX9_mixLog 50 = .ok (.lstore_n 3, 1) := by decide +kernel
theorem dX9_mixLog_51 : decode cX9_mixLog 51 = .ok (.iinc 6 1, 3) := by decide +kernel
theorem dX9_mixLog_54 : decode cX9_mixLog 54 = .ok (.goto (-31), 3) := by decide +kernel
theorem dX9_mixLog_57 : decode cX9_mixLog 57 = .ok (.iinc 5 1, 3) := by decide +kernel
theorem dX9_mixLog_60 : decode cX9_mixLog 60 = .ok (.goto (-55), 3) := by decide +kernel
theorem dX9_mixLog_63 : decode cX9_mixLog 63 = .ok (.lload_n 3, 1) := by decide +kernel
theorem dX9_mixLog_64 : decode cX9_mixLog 64 = .ok (.lreturn, 1) := by decide +kernel
theorem cc_X9_mixLog_X4_kept : CallC tX9_mixLog tX4_kept 0 := ⟨by decide +kernel, by decide +kernel, by decide +kernel, by decide, by decide, qw_74, qw_774⟩
theorem cc_X9_mixLog_X4_valueOf : CallC tX9_mixLog tX4_valueOf 2 := ⟨by decide +kernel, by decide +kernel, by decide +kernel, by decide, by decide, qw_74, qw_779⟩
def kX9_mixLog : Nat → WOp := cN 29 (cN 11 (cN 3 (cN 1 (cN 0 (cL 0 (o_lload 1 1)) (cL 1 (o_lstore 2 3))) (cN 2 (cL 2 (o_push 3 0)) (cL 3 (o_istore 5 5)))) (cN 7 (cN 5 (cL 5 (o_iload 7 5)) (cL 7 (o_aload 8 0))) (cN 8 (cL 8 (o_getf 11 7 0)) (cL 11 (o_getf 14 5 6))))) (cN 21 (cN 17 (cN 14 (cL 14 (o_callV 17 3 0 tX4_kept 0 0)) (cL 17 (o_icmp_ge 63 20))) (cN 20 (cL 20 (o_push 21 0)) (cL 21 (o_istore 23 6)))) (cN 25 (cN 23 (cL 23 (o_iload 25 6)) (cL 25 (o_push 26 5))) (cN 26 (cL 26 (o_icmp_ge 57 29)) (cL 29 (o_lpush 32 31)))))) (cN 45 (cN 35 (cN 33 (cN 32 (cL 32 (o_lload 33 3)) (cL 33 (o_lmul 34))) (cN 34 (cL 34 (o_aload 35 0)) (cL 35 (o_getf 38 7 0)))) (cN 41 (cN 38 (cL 38 (o_getf 41 5 6)) (cL 41 (o_iload 43 5))) (cN 43 (cL 43 (o_iload 45 6)) (cL 45 (o_callV 48 3 2 tX4_valueOf 0 0))))) (cN 51 (cN 49 (cN 48 (cL 48 (o_i2l 49)) (cL 49 (o_ladd 50))) (cN 50 (cL 50 (o_lstore 51 3)) (cL 51 (o_iinc 54 6 1)))) (cN 57 (cN 54 (cL 54 (o_goto 23)) (cL 57 (o_iinc 60 5 1))) (cN 60 (cL 60 (o_goto 5)) (cN 63 (cL 63 (o_lload 64 3)) (cL 64 (o_lret)))))))
theorem sX9_mixLog : ∀ pc, Snd tX9_mixLog G1 pc (kX9_mixLog pc) := s_N (s_N (s_N (s_N (s_N (s_L (s_lload_n dX9_mixLog_0 rfl)) (s_L (s_lstore_n dX9_mixLog_1 rfl (by decide)))) (s_N (s_L (s_iconst dX9_mixLog_2 (by decide +kernel))) (s_L (s_istore dX9_mixLog_3 (by decide))))) (s_N (s_N (s_L (s_iload dX9_mixLog_5)) (s_L (s_aload_n dX9_mixLog_7 rfl))) (s_N (s_L (s_getf ok_7 (k := 0) (by decide) dX9_mixLog_8 qw_319)) (s_L (s_getf ok_5 (k := 6) (by decide) dX9_mixLog_11 qw_251))))) (s_N (s_N (s_N (s_L (s_callV (d' := tX4_kept) (mc := 0) (ms := 0) ok_3 cc_X9_mixLog_X4_kept qw_771 qw_772 qw_773 dX9_mixLog_14)) (s_L (s_o_icmp_ge dX9_mixLog_17 (by decide)))) (s_N (s_L (s_iconst dX9_mixLog_20 (by decide +kernel))) (s_L (s_istore dX9_mixLog_21 (by decide))))) (s_N (s_N (s_L (s_iload dX9_mixLog_23)) (s_L (s_iconst dX9_mixLog_25 (by decide +kernel)))) (s_N (s_L (s_o_icmp_ge dX9_mixLog_26 (by decide))) (s_L (s_ldc2 dX9_mixLog_29 qw_685)))))) (s_N (s_N (s_N (s_N (s_L (s_lload_n dX9_mixLog_32 rfl)) (s_L (s_o_lmul dX9_mixLog_33))) (s_N (s_L (s_aload_n dX9_mixLog_34 rfl)) (s_L (s_getf ok_7 (k := 0) (by decide) dX9_mixLog_35 qw_319)))) (s_N (s_N (s_L (s_getf ok_5 (k := 6) (by decide) dX9_mixLog_38 qw_251)) (s_L (s_iload dX9_mixLog_41))) (s_N (s_L (s_iload dX9_mixLog_43)) (s_L (s_callV (d' := tX4_valueOf) (mc := 0) (ms := 0) ok_3 cc_X9_mixLog_X4_valueOf qw_776 qw_777 qw_778 dX9_mixLog_45))))) (s_N (s_N (s_N (s_L (s_o_i2l dX9_mixLog_48)) (s_L (s_o_ladd dX9_mixLog_49))) (s_N (s_L (s_lstore_n dX9_mixLog_50 rfl (by decide))) (s_L (s_iinc (v := 1) dX9_mixLog_51 (by decide +kernel) (by decide))))) (s_N (s_N (s_L (s_o_goto dX9_mixLog_54 (by decide))) (s_L (s_iinc (v := 1) dX9_mixLog_57 (by decide +kernel) (by decide)))) (s_N (s_L (s_o_goto dX9_mixLog_60 (by decide))) (s_N (s_L (s_lload_n dX9_mixLog_63 rfl)) (s_L (s_lret rfl dX9_mixLog_64)))))))
/-! PlateArm.mixForecasts -/
theorem dX9_mixForecasts_0 : decode cX9_mixForecasts 0 = .ok (.lload_n 1, 1) := by decide +kernel
theorem dX9_mixForecasts_1 : decode cX9_mixForecasts 1 = .ok (.lstore_n 3, 1) := by decide +kernel
theorem dX9_mixForecasts_2 : decode cX9_mixForecasts 2 = .ok (.iconst 0, 1) := by decide +kernel
theorem dX9_mixForecasts_3 : decode cX9_mixForecasts 3 = .ok (.istore 5, 2) := by decide +kernel
theorem dX9_mixForecasts_5 : decode cX9_mixForecasts 5 = .ok (.iload 5, 2) := by decide +kernel
theorem dX9_mixForecasts_7 : decode cX9_mixForecasts 7 = .ok (.iconst 4, 1) := by decide +kernel
theorem dX9_mixForecasts_8 : decode cX9_mixForecasts 8 = .ok (.if_icmp .ge 56, 3) := by decide +kernel
theorem dX9_mixForecasts_11 : decode cX9_mixForecasts 11 = .ok (.ldc2_w 265, 3) := by decide +kernel
theorem dX9_mixForecasts_14 : decode cX9_mixForecasts 14 = .ok (.lload_n 3, 1) := by decide +kernel
theorem dX9_mixForecasts_15 : decode cX9_mixForecasts 15 = .ok (.lmul, 1) := by decide +kernel
theorem dX9_mixForecasts_16 : decode cX9_mixForecasts 16 = .ok (.aload_n 0, 1) := by decide +kernel
theorem dX9_mixForecasts_17 : decode cX9_mixForecasts 17 = .ok (.iload 5, 2) := by decide +kernel
theorem dX9_mixForecasts_19 : decode cX9_mixForecasts 19 = .ok (.invokevirtual 288, 3) := by decide +kernel
theorem dX9_mixForecasts_22 : decode cX9_mixForecasts 22 = .ok (.i2l, 1) := by decide +kernel
theorem dX9_mixForecasts_23 : decode cX9_mixForecasts 23 = .ok (.ladd, 1) := by decide +kernel
theorem dX9_mixForecasts_24 : decode cX9_mixForecasts 24 = .ok (.lstore_n 3, 1) := by decide +kernel
theorem dX9_mixForecasts_25 : decode cX9_mixForecasts 25 = .ok (.iconst 0, 1) := by decide +kernel
theorem dX9_mixForecasts_26 : decode cX9_mixForecasts 26 = .ok (.istore 6, 2) := by decide +kernel
theorem dX9_mixForecasts_28 : decode cX9_mixForecasts 28 = .ok (.iload 6, 2) := by decide +kernel
theorem dX9_mixForecasts_30 : decode cX9_mixForecasts 30 = .ok (.iconst 2, 1) := by decide +kernel
theorem dX9_mixForecasts_31 : decode cX9_mixForecasts 31 = .ok (.if_icmp .gt 27, 3) := by decide +kernel
theorem dX9_mixForecasts_34 : decode cX9_mixForecasts 34 = .ok (.ldc2_w 265, 3) := by decide +kernel
theorem dX9_mixForecasts_37 : decode cX9_mixForecasts 37 = .ok (.lload_n 3, 1) := by decide +kernel
theorem dX9_mixForecasts_38 : decode cX9_mixForecasts 38 = .ok (.lmul, 1) := by decide +kernel
theorem dX9_mixForecasts_39 : decode cX9_mixForecasts 39 = .ok (.aload_n 0, 1) := by decide +kernel
theorem dX9_mixForecasts_40 : decode cX9_mixForecasts 40 = .ok (.getfield 25, 3) := by decide +kernel
theorem dX9_mixForecasts_43 : decode cX9_mixForecasts 43 = .ok (.iload 5, 2) := by decide +kernel
theorem dX9_mixForecasts_45 : decode cX9_mixForecasts 45 = .ok (.aaload, 1) := by decide +kernel
theorem dX9_mixForecasts_46 : decode cX9_mixForecasts 46 = .ok (.iload 6, 2) := by decide +kernel
theorem dX9_mixForecasts_48 : decode cX9_mixForecasts 48 = .ok (.iaload, 1) := by decide +kernel
theorem dX9_mixForecasts_49 : decode cX9_mixForecasts 49 = .ok (.i2l, 1) := by decide +kernel
theorem dX9_mixForecasts_50 : decode cX9_mixForecasts 50 = .ok (.ladd, 1) := by decide +kernel
theorem dX9_mixForecasts_51 : decode cX9_mixForecasts 51 = .ok (.lstore_n 3, 1) := by decide +kernel
theorem dX9_mixForecasts_52 : decode cX9_mixForecasts 52 = .ok (.iinc 6 1, 3) := by decide +kernel
theorem dX9_mixForecasts_55 : decode cX9_mixForecasts 55 = .ok (.goto (-27), 3) := by decide +kernel
theorem dX9_mixForecasts_58 : decode cX9_mixForecasts 58 = .ok (.iinc 5 1, 3) := by decide +kernel
theorem dX9_mixForecasts_61 : decode cX9_mixForecasts 61 = .ok (.goto (-56), 3) := by decide +kernel
theorem dX9_mixForecasts_64 : decode cX9_mixForecasts 64 = .ok (.lload_n 3, 1) := by decide +kernel
theorem dX9_mixForecasts_65 : decode cX9_mixForecasts 65 = .ok (.lreturn, 1) := by decide +kernel
theorem cc_X9_mixForecasts_X9_target : CallC tX9_mixForecasts tX9_target 1 := ⟨by decide +kernel, by decide +kernel, by decide +kernel, by decide, by decide, qw_70, qw_787⟩
def kX9_mixForecasts : Nat → WOp := cN 28 (cN 14 (cN 3 (cN 1 (cN 0 (cL 0 (o_lload 1 1)) (cL 1 (o_lstore 2 3))) (cN 2 (cL 2 (o_push 3 0)) (cL 3 (o_istore 5 5)))) (cN 7 (cN 5 (cL 5 (o_iload 7 5)) (cL 7 (o_push 8 4))) (cN 8 (cL 8 (o_icmp_ge 64 11)) (cN 11 (cL 11 (o_lpush 14 31)) (cL 14 (o_lload 15 3)))))) (cN 22 (cN 16 (cN 15 (cL 15 (o_lmul 16)) (cL 16 (o_aload 17 0))) (cN 17 (cL 17 (o_iload 19 5)) (cN 19 (cL 19 (o_callV 22 7 1 tX9_target 0 0)) (cL 22 (o_i2l 23))))) (cN 24 (cN 23 (cL 23 (o_ladd 24)) (cL 24 (o_lstore 25 3))) (cN 25 (cL 25 (o_push 26 0)) (cN 26 (cL 26 (o_istore 28 6)) (cL 28 (o_iload 30 6))))))) (cN 46 (cN 38 (cN 31 (cN 30 (cL 30 (o_push 31 2)) (cL 31 (o_icmp_gt 58 34))) (cN 34 (cL 34 (o_lpush 37 31)) (cN 37 (cL 37 (o_lload 38 3)) (cL 38 (o_lmul 39))))) (cN 40 (cN 39 (cL 39 (o_aload 40 0)) (cL 40 (o_getf 43 7 4))) (cN 43 (cL 43 (o_iload 45 5)) (cN 45 (cL 45 (o_aald 46 4)) (cL 46 (o_iload 48 6)))))) (cN 52 (cN 49 (cN 48 (cL 48 (o_iald 49)) (cL 49 (o_i2l 50))) (cN 50 (cL 50 (o_ladd 51)) (cN 51 (cL 51 (o_lstore 52 3)) (cL 52 (o_iinc 55 6 1))))) (cN 58 (cN 55 (cL 55 (o_goto 28)) (cL 58 (o_iinc 61 5 1))) (cN 61 (cL 61 (o_goto 5)) (cN 64 (cL 64 (o_lload 65 3)) (cL 65 (o_lret)))))))
theorem sX9_mixForecasts : ∀ pc, Snd tX9_mixForecasts G1 pc (kX9_mixForecasts pc) := s_N (s_N (s_N (s_N (s_N (s_L (s_lload_n dX9_mixForecasts_0 rfl)) (s_L (s_lstore_n dX9_mixForecasts_1 rfl (by decide)))) (s_N (s_L (s_iconst dX9_mixForecasts_2 (by decide +kernel))) (s_L (s_istore dX9_mixForecasts_3 (by decide))))) (s_N (s_N (s_L (s_iload dX9_mixForecasts_5)) (s_L (s_iconst dX9_mixForecasts_7 (by decide +kernel)))) (s_N (s_L (s_o_icmp_ge dX9_mixForecasts_8 (by decide))) (s_N (s_L (s_ldc2 dX9_mixForecasts_11 qw_685)) (s_L (s_lload_n dX9_mixForecasts_14 rfl)))))) (s_N (s_N (s_N (s_L (s_o_lmul dX9_mixForecasts_15)) (s_L (s_aload_n dX9_mixForecasts_16 rfl))) (s_N (s_L (s_iload dX9_mixForecasts_17)) (s_N (s_L (s_callV (d' := tX9_target) (mc := 0) (ms := 0) ok_7 cc_X9_mixForecasts_X9_target qw_784 qw_785 qw_786 dX9_mixForecasts_19)) (s_L (s_o_i2l dX9_mixForecasts_22))))) (s_N (s_N (s_L (s_o_ladd dX9_mixForecasts_23)) (s_L (s_lstore_n dX9_mixForecasts_24 rfl (by decide)))) (s_N (s_L (s_iconst dX9_mixForecasts_25 (by decide +kernel))) (s_N (s_L (s_istore dX9_mixForecasts_26 (by decide))) (s_L (s_iload dX9_mixForecasts_28))))))) (s_N (s_N (s_N (s_N (s_L (s_iconst dX9_mixForecasts_30 (by decide +kernel))) (s_L (s_o_icmp_gt dX9_mixForecasts_31 (by decide)))) (s_N (s_L (s_ldc2 dX9_mixForecasts_34 qw_685)) (s_N (s_L (s_lload_n dX9_mixForecasts_37 rfl)) (s_L (s_o_lmul dX9_mixForecasts_38))))) (s_N (s_N (s_L (s_aload_n dX9_mixForecasts_39 rfl)) (s_L (s_getf ok_7 (k := 4) (by decide) dX9_mixForecasts_40 qw_323))) (s_N (s_L (s_iload dX9_mixForecasts_43)) (s_N (s_L (s_aald (by decide) dX9_mixForecasts_45)) (s_L (s_iload dX9_mixForecasts_46)))))) (s_N (s_N (s_N (s_L (s_iald dX9_mixForecasts_48)) (s_L (s_o_i2l dX9_mixForecasts_49))) (s_N (s_L (s_o_ladd dX9_mixForecasts_50)) (s_N (s_L (s_lstore_n dX9_mixForecasts_51 rfl (by decide))) (s_L (s_iinc (v := 1) dX9_mixForecasts_52 (by decide +kernel) (by decide)))))) (s_N (s_N (s_L (s_o_goto dX9_mixForecasts_55 (by decide))) (s_L (s_iinc (v := 1) dX9_mixForecasts_58 (by decide +kernel) (by decide)))) (s_N (s_L (s_o_goto dX9_mixForecasts_61 (by decide))) (s_N (s_L (s_lload_n dX9_mixForecasts_64 rfl)) (s_L (s_lret rfl dX9_mixForecasts_65)))))))
/-! PlateArm.plateFits -/
theorem dX9_plateFits_0 : decode cX9_plateFits 0 = .ok (.iload_n 0, 1) := by decide +kernel
theorem dX9_plateFits_1 : decode cX9_plateFits 1 = .ok (.iconst 4, 1) := by decide +kernel
theorem dX9_plateFits_2 : decode cX9_plateFits 2 = .ok (.if_icmp .lt 24, 3) := by decide +kernel
theorem dX9_plateFits_5 : decode cX9_plateFits 5 = .ok (.iload_n 0, 1) := by decide +kernel
theorem dX9_plateFits_6 : decode cX9_plateFits 6 = .ok (.bipush 24, 2) := by decide +kernel
theorem dX9_plateFits_8 : decode cX9_plateFits 8 = .ok (.if_icmp .gt 18, 3) := by decide +kernel
theorem dX9_plateFits_11 : decode cX9_plateFits 11 = .ok (.iload_n 1, 1) := by decide +kernel
theorem dX9_plateFits_12 : decode cX9_plateFits 12 = .ok (.iconst 3, 1) := by decide +kernel
theorem dX9_plateFits_13 : decode cX9_plateFits 13 = .ok (.if_icmp .lt 13, 3) := by decide +kernel
theorem dX9_plateFits_16 : decode cX9_plateFits 16 = .ok (.iload_n 1, 1) := by decide +kernel
theorem dX9_plateFits_17 : decode cX9_plateFits 17 = .ok (.bipush 12, 2) := by decide +kernel
theorem dX9_plateFits_19 : decode cX9_plateFits 19 = .ok (.if_icmp .gt 7, 3) := by decide +kernel
theorem dX9_plateFits_22 : decode cX9_plateFits 22 = .ok (.iconst 1, 1) := by decide +kernel
theorem dX9_plateFits_23 : decode cX9_plateFits 23 = .ok (.goto 4, 3) := by decide +kernel
theorem dX9_plateFits_26 : decode cX9_plateFits 26 = .ok (.iconst 0, 1) := by decide +kernel
theorem dX9_plateFits_27 : decode cX9_plateFits 27 = .ok (.ireturn, 1) := by decide +kernel
def kX9_plateFits : Nat → WOp := cN 12 (cN 5 (cN 1 (cN 0 (cL 0 (o_iload 1 0)) (cL 1 (o_push 2 4))) (cN 2 (cL 2 (o_icmp_lt 26 5)) (cL 5 (o_iload 6 0)))) (cN 8 (cN 6 (cL 6 (o_push 8 24)) (cL 8 (o_icmp_gt 26 11))) (cN 11 (cL 11 (o_iload 12 1)) (cL 12 (o_push 13 3))))) (cN 19 (cN 16 (cN 13 (cL 13 (o_icmp_lt 26 16)) (cL 16 (o_iload 17 1))) (cN 17 (cL 17 (o_push 19 12)) (cL 19 (o_icmp_gt 26 22)))) (cN 23 (cN 22 (cL 22 (o_push 23 1)) (cL 23 (o_goto 27))) (cN 26 (cL 26 (o_push 27 0)) (cL 27 (o_zret)))))
theorem sX9_plateFits : ∀ pc, Snd tX9_plateFits G1 pc (kX9_plateFits pc) := s_N (s_N (s_N (s_N (s_L (s_iload_n dX9_plateFits_0 rfl)) (s_L (s_iconst dX9_plateFits_1 (by decide +kernel)))) (s_N (s_L (s_o_icmp_lt dX9_plateFits_2 (by decide))) (s_L (s_iload_n dX9_plateFits_5 rfl)))) (s_N (s_N (s_L (s_bipush dX9_plateFits_6 (by decide +kernel))) (s_L (s_o_icmp_gt dX9_plateFits_8 (by decide)))) (s_N (s_L (s_iload_n dX9_plateFits_11 rfl)) (s_L (s_iconst dX9_plateFits_12 (by decide +kernel)))))) (s_N (s_N (s_N (s_L (s_o_icmp_lt dX9_plateFits_13 (by decide))) (s_L (s_iload_n dX9_plateFits_16 rfl))) (s_N (s_L (s_bipush dX9_plateFits_17 (by decide +kernel))) (s_L (s_o_icmp_gt dX9_plateFits_19 (by decide))))) (s_N (s_N (s_L (s_iconst dX9_plateFits_22 (by decide +kernel))) (s_L (s_o_goto dX9_plateFits_23 (by decide)))) (s_N (s_L (s_iconst dX9_plateFits_26 (by decide +kernel))) (s_L (s_zret rfl dX9_plateFits_27)))))
/-! PlateArm.requestFits -/
theorem dX9_requestFits_0 : decode cX9_requestFits 0 = .ok (.iload_n 1, 1) := by decide +kernel
theorem dX9_requestFits_1 : decode cX9_requestFits 1 = .ok (.ifCond .lt 44, 3) := by decide +kernel
theorem dX9_requestFits_4 : decode cX9_requestFits 4 = .ok (.iload_n 1, 1) := by decide +kernel
theorem dX9_requestFits_5 : decode cX9_requestFits 5 = .ok (.aload_n 0, 1) := by decide +kernel
theorem dX9_requestFits_6 : decode cX9_requestFits 6 = .ok (.getfield 10, 3) := by decide +kernel
theorem dX9_requestFits_9 : decode cX9_requestFits 9 = .ok (.getfield 170, 3) := by decide +kernel
theorem dX9_requestFits_12 : decode cX9_requestFits 12 = .ok (.if_icmp .ge 33, 3) := by decide +kernel
theorem dX9_requestFits_15 : decode cX9_requestFits 15 = .ok (.iload_n 2, 1) := by decide +kernel
theorem dX9_requestFits_16 : decode cX9_requestFits 16 = .ok (.ifCond .lt 29, 3) := by decide +kernel
theorem dX9_requestFits_19 : decode cX9_requestFits 19 = .ok (.iload_n 2, 1) := by decide +kernel
theorem dX9_requestFits_20 : decode cX9_requestFits 20 = .ok (.aload_n 0, 1) := by decide +kernel
theorem dX9_requestFits_21 : decode cX9_requestFits 21 = .ok (.getfield 10, 3) := by decide +kernel
theorem dX9_requestFits_24 : decode cX9_requestFits 24 = .ok (.getfield 173, 3) := by decide +kernel
theorem dX9_requestFits_27 : decode cX9_requestFits 27 = .ok (.if_icmp .ge 18, 3) := by decide +kernel
theorem dX9_requestFits_30 : decode cX9_requestFits 30 = .ok (.iload_n 3, 1) := by decide +kernel
theorem dX9_requestFits_31 : decode cX9_requestFits 31 = .ok (.ifCond .lt 14, 3) := by decide +kernel
theorem dX9_requestFits_34 : decode cX9_requestFits 34 = .ok (.iload_n 3, 1) := by decide +kernel
theorem dX9_requestFits_35 : decode cX9_requestFits 35 = .ok (.sipush 9999, 3) := by decide +kernel
theorem dX9_requestFits_38 : decode cX9_requestFits 38 = .ok (.if_icmp .gt 7, 3) := by decide +kernel
theorem dX9_requestFits_41 : decode cX9_requestFits 41 = .ok (.iconst 1, 1) := by decide +kernel
theorem dX9_requestFits_42 : decode cX9_requestFits 42 = .ok (.goto 4, 3) := by decide +kernel
theorem dX9_requestFits_45 : decode cX9_requestFits 45 = .ok (.iconst 0, 1) := by decide +kernel
theorem dX9_requestFits_46 : decode cX9_requestFits 46 = .ok (.ireturn, 1) := by decide +kernel
def kX9_requestFits : Nat → WOp := cN 20 (cN 6 (cN 1 (cN 0 (cL 0 (o_iload 1 1)) (cL 1 (o_if_lt 45 4))) (cN 4 (cL 4 (o_iload 5 1)) (cN 5 (cL 5 (o_aload 6 0)) (cL 6 (o_getf 9 7 0))))) (cN 15 (cN 9 (cL 9 (o_getf 12 5 0)) (cN 12 (cL 12 (o_icmp_ge 45 15)) (cL 15 (o_iload 16 2)))) (cN 16 (cL 16 (o_if_lt 45 19)) (cN 19 (cL 19 (o_iload 20 2)) (cL 20 (o_aload 21 0)))))) (cN 34 (cN 27 (cN 21 (cL 21 (o_getf 24 7 0)) (cN 24 (cL 24 (o_getf 27 5 1)) (cL 27 (o_icmp_ge 45 30)))) (cN 30 (cL 30 (o_iload 31 3)) (cN 31 (cL 31 (o_if_lt 45 34)) (cL 34 (o_iload 35 3))))) (cN 41 (cN 35 (cL 35 (o_push 38 9999)) (cN 38 (cL 38 (o_icmp_gt 45 41)) (cL 41 (o_push 42 1)))) (cN 42 (cL 42 (o_goto 46)) (cN 45 (cL 45 (o_push 46 0)) (cL 46 (o_zret))))))
theorem sX9_requestFits : ∀ pc, Snd tX9_requestFits G1 pc (kX9_requestFits pc) := s_N (s_N (s_N (s_N (s_L (s_iload_n dX9_requestFits_0 rfl)) (s_L (s_o_if_lt dX9_requestFits_1 (by decide)))) (s_N (s_L (s_iload_n dX9_requestFits_4 rfl)) (s_N (s_L (s_aload_n dX9_requestFits_5 rfl)) (s_L (s_getf ok_7 (k := 0) (by decide) dX9_requestFits_6 qw_319))))) (s_N (s_N (s_L (s_getf ok_5 (k := 0) (by decide) dX9_requestFits_9 qw_239)) (s_N (s_L (s_o_icmp_ge dX9_requestFits_12 (by decide))) (s_L (s_iload_n dX9_requestFits_15 rfl)))) (s_N (s_L (s_o_if_lt dX9_requestFits_16 (by decide))) (s_N (s_L (s_iload_n dX9_requestFits_19 rfl)) (s_L (s_aload_n dX9_requestFits_20 rfl)))))) (s_N (s_N (s_N (s_L (s_getf ok_7 (k := 0) (by decide) dX9_requestFits_21 qw_319)) (s_N (s_L (s_getf ok_5 (k := 1) (by decide) dX9_requestFits_24 qw_241)) (s_L (s_o_icmp_ge dX9_requestFits_27 (by decide))))) (s_N (s_L (s_iload_n dX9_requestFits_30 rfl)) (s_N (s_L (s_o_if_lt dX9_requestFits_31 (by decide))) (s_L (s_iload_n dX9_requestFits_34 rfl))))) (s_N (s_N (s_L (s_sipush dX9_requestFits_35 (by decide +kernel))) (s_N (s_L (s_o_icmp_gt dX9_requestFits_38 (by decide))) (s_L (s_iconst dX9_requestFits_41 (by decide +kernel))))) (s_N (s_L (s_o_goto dX9_requestFits_42 (by decide))) (s_N (s_L (s_iconst dX9_requestFits_45 (by decide +kernel))) (s_L (s_zret rfl dX9_requestFits_46))))))
/-! PlateArm.settingFits -/
theorem dX9_settingFits_0 : decode cX9_settingFits 0 = .ok (.iload_n 0, 1) := by decide +kernel
theorem dX9_settingFits_1 : decode cX9_settingFits 1 = .ok (.ifCond .lt 30, 3) := by decide +kernel
theorem dX9_settingFits_4 : decode cX9_settingFits 4 = .ok (.iload_n 0, 1) := by decide +kernel
theorem dX9_settingFits_5 : decode cX9_settingFits 5 = .ok (.iconst 4, 1) := by decide +kernel
theorem dX9_settingFits_6 : decode cX9_settingFits 6 = .ok (.if_icmp .ge 25, 3) := by decide +kernel
theorem dX9_settingFits_9 : decode cX9_settingFits 9 = .ok (.iload_n 1, 1) := by decide +kernel
theorem dX9_settingFits_10 : decode cX9_settingFits 10 = .ok (.getstatic 291, 3) := by decide +kernel
theorem dX9_settingFits_13 : decode cX9_settingFits 13 = .ok (.iload_n 0, 1) := by decide +kernel
theorem dX9_settingFits_14 : decode cX9_settingFits 14 = .ok (.iaload, 1) := by decide +kernel
theorem dX9_settingFits_15 : decode cX9_settingFits 15 = .ok (.if_icmp .lt 16, 3) := by decide +kernel
theorem dX9_settingFits_18 : decode cX9_settingFits 18 = .ok (.iload_n 1, 1) := by decide +kernel
theorem dX9_settingFits_19 : decode cX9_settingFits 19 = .ok (.getstatic 294, 3) := by decide +kernel
theorem dX9_settingFits_22 : decode cX9_settingFits 22 = .ok (.iload_n 0, 1) := by decide +kernel
theorem dX9_settingFits_23 : decode cX9_settingFits 23 = .ok (.iaload, 1) := by decide +kernel
theorem dX9_settingFits_24 : decode cX9_settingFits 24 = .ok (.if_icmp .gt 7, 3) := by decide +kernel
theorem dX9_settingFits_27 : decode cX9_settingFits 27 = .ok (.iconst 1, 1) := by decide +kernel
theorem dX9_settingFits_28 : decode cX9_settingFits 28 = .ok (.goto 4, 3) := by decide +kernel
theorem dX9_settingFits_31 : decode cX9_settingFits 31 = .ok (.iconst 0, 1) := by decide +kernel
theorem dX9_settingFits_32 : decode cX9_settingFits 32 = .ok (.ireturn, 1) := by decide +kernel
def kX9_settingFits : Nat → WOp := cN 14 (cN 5 (cN 1 (cN 0 (cL 0 (o_iload 1 0)) (cL 1 (o_if_lt 31 4))) (cN 4 (cL 4 (o_iload 5 0)) (cL 5 (o_push 6 4)))) (cN 9 (cN 6 (cL 6 (o_icmp_ge 31 9)) (cL 9 (o_iload 10 1))) (cN 10 (cL 10 (o_gets 13 (.float 18))) (cN 13 (cL 13 (o_iload 14 0)) (cL 14 (o_xald 15 18 [0, 0, 5, 0])))))) (cN 23 (cN 18 (cN 15 (cL 15 (o_icmp_lt 31 18)) (cL 18 (o_iload 19 1))) (cN 19 (cL 19 (o_gets 22 (.float 19))) (cN 22 (cL 22 (o_iload 23 0)) (cL 23 (o_xald 24 19 [3, 20, 200, 100]))))) (cN 27 (cN 24 (cL 24 (o_icmp_gt 31 27)) (cL 27 (o_push 28 1))) (cN 28 (cL 28 (o_goto 32)) (cN 31 (cL 31 (o_push 32 0)) (cL 32 (o_zret))))))
theorem sX9_settingFits : ∀ pc, Snd tX9_settingFits G1 pc (kX9_settingFits pc) := s_N (s_N (s_N (s_N (s_L (s_iload_n dX9_settingFits_0 rfl)) (s_L (s_o_if_lt dX9_settingFits_1 (by decide)))) (s_N (s_L (s_iload_n dX9_settingFits_4 rfl)) (s_L (s_iconst dX9_settingFits_5 (by decide +kernel))))) (s_N (s_N (s_L (s_o_icmp_ge dX9_settingFits_6 (by decide))) (s_L (s_iload_n dX9_settingFits_9 rfl))) (s_N (s_L (s_gets (C := "PlateArm") (nm := "LOWEST_SETTING") (dsc := "[I") (by simp [EZ]) dX9_settingFits_10 qw_661)) (s_N (s_L (s_iload_n dX9_settingFits_13 rfl)) (s_L (s_xald (k := 18) (l := [0, 0, 5, 0]) (by simp [ET]) dX9_settingFits_14)))))) (s_N (s_N (s_N (s_L (s_o_icmp_lt dX9_settingFits_15 (by decide))) (s_L (s_iload_n dX9_settingFits_18 rfl))) (s_N (s_L (s_gets (C := "PlateArm") (nm := "HIGHEST_SETTING") (dsc := "[I") (by simp [EZ]) dX9_settingFits_19 qw_663)) (s_N (s_L (s_iload_n dX9_settingFits_22 rfl)) (s_L (s_xald (k := 19) (l := [3, 20, 200, 100]) (by simp [ET]) dX9_settingFits_23))))) (s_N (s_N (s_L (s_o_icmp_gt dX9_settingFits_24 (by decide))) (s_L (s_iconst dX9_settingFits_27 (by decide +kernel)))) (s_N (s_L (s_o_goto dX9_settingFits_28 (by decide))) (s_N (s_L (s_iconst dX9_settingFits_31 (by decide +kernel))) (s_L (s_zret rfl dX9_settingFits_32))))))
/-! PlateArm.ticksFit -/
theorem dX9_ticksFit_0 : decode cX9_ticksFit 0 = .ok (.iload_n 0, 1) := by decide +kernel
theorem dX9_ticksFit_1 : decode cX9_ticksFit 1 = .ok (.iconst 1, 1) := by decide +kernel
theorem dX9_ticksFit_2 : decode cX9_ticksFit 2 = .ok (.if_icmp .lt 13, 3) := by decide +kernel
theorem dX9_ticksFit_5 : decode cX9_ticksFit 5 = .ok (.iload_n 0, 1) := by decide +kernel
theorem dX9_ticksFit_6 : decode cX9_ticksFit 6 = .ok (.bipush 99, 2) := by decide +kernel
theorem dX9_ticksFit_8 : decode cX9_ticksFit 8 = .ok (.if_icmp .gt 7, 3) := by decide +kernel
theorem dX9_ticksFit_11 : decode cX9_ticksFit 11 = .ok (.iconst 1, 1) := by decide +kernel
theorem dX9_ticksFit_12 : decode cX9_ticksFit 12 = .ok (.goto 4, 3) := by decide +kernel
theorem dX9_ticksFit_15 : decode cX9_ticksFit 15 = .ok (.iconst 0, 1) := by decide +kernel
theorem dX9_ticksFit_16 : decode cX9_ticksFit 16 = .ok (.ireturn, 1) := by decide +kernel
def kX9_ticksFit : Nat → WOp := cN 6 (cN 1 (cN 0 (cL 0 (o_iload 1 0)) (cL 1 (o_push 2 1))) (cN 2 (cL 2 (o_icmp_lt 15 5)) (cN 5 (cL 5 (o_iload 6 0)) (cL 6 (o_push 8 99))))) (cN 11 (cN 8 (cL 8 (o_icmp_gt 15 11)) (cL 11 (o_push 12 1))) (cN 12 (cL 12 (o_goto 16)) (cN 15 (cL 15 (o_push 16 0)) (cL 16 (o_zret)))))
theorem sX9_ticksFit : ∀ pc, Snd tX9_ticksFit G1 pc (kX9_ticksFit pc) := s_N (s_N (s_N (s_L (s_iload_n dX9_ticksFit_0 rfl)) (s_L (s_iconst dX9_ticksFit_1 (by decide +kernel)))) (s_N (s_L (s_o_icmp_lt dX9_ticksFit_2 (by decide))) (s_N (s_L (s_iload_n dX9_ticksFit_5 rfl)) (s_L (s_bipush dX9_ticksFit_6 (by decide +kernel)))))) (s_N (s_N (s_L (s_o_icmp_gt dX9_ticksFit_8 (by decide))) (s_L (s_iconst dX9_ticksFit_11 (by decide +kernel)))) (s_N (s_L (s_o_goto dX9_ticksFit_12 (by decide))) (s_N (s_L (s_iconst dX9_ticksFit_15 (by decide +kernel))) (s_L (s_zret rfl dX9_ticksFit_16)))))
/-! PlateArm.timeIsLeft -/
theorem dX9_timeIsLeft_0 : decode cX9_timeIsLeft 0 = .ok (.aload_n 0, 1) := by decide +kernel
theorem dX9_timeIsLeft_1 : decode cX9_timeIsLeft 1 = .ok (.getfield 10, 3) := by decide +kernel
theorem dX9_timeIsLeft_4 : decode cX9_timeIsLeft 4 = .ok (.getfield 77, 3) := by decide +kernel
theorem dX9_timeIsLeft_7 : decode cX9_timeIsLeft 7 = .ok (.iload_n 1, 1) := by decide +kernel
theorem dX9_timeIsLeft_8 : decode cX9_timeIsLeft 8 = .ok (.iadd, 1) := by decide +kernel
theorem dX9_timeIsLeft_9 : decode cX9_timeIsLeft 9 = .ok (.sipush 9999, 3) := by decide +kernel
theorem dX9_timeIsLeft_12 : decode cX9_timeIsLeft 12 = .ok (.if_icmp .gt 7, 3) := by decide +kernel
theorem dX9_timeIsLeft_15 : decode cX9_timeIsLeft 15 = .ok (.iconst 1, 1) := by decide +kernel
theorem dX9_timeIsLeft_16 : decode cX9_timeIsLeft 16 = .ok (.goto 4, 3) := by decide +kernel
theorem dX9_timeIsLeft_19 : decode cX9_timeIsLeft 19 = .ok (.iconst 0, 1) := by decide +kernel
theorem dX9_timeIsLeft_20 : decode cX9_timeIsLeft 20 = .ok (.ireturn, 1) := by decide +kernel
def kX9_timeIsLeft : Nat → WOp := cN 8 (cN 1 (cN 0 (cL 0 (o_aload 1 0)) (cL 1 (o_getf 4 7 0))) (cN 4 (cL 4 (o_getf 7 5 2)) (cN 7 (cL 7 (o_iload 8 1)) (cL 8 (o_iadd 9))))) (cN 15 (cN 9 (cL 9 (o_push 12 9999)) (cN 12 (cL 12 (o_icmp_gt 19 15)) (cL 15 (o_push 16 1)))) (cN 16 (cL 16 (o_goto 20)) (cN 19 (cL 19 (o_push 20 0)) (cL 20 (o_zret)))))
theorem sX9_timeIsLeft : ∀ pc, Snd tX9_timeIsLeft G1 pc (kX9_timeIsLeft pc) := s_N (s_N (s_N (s_L (s_aload_n dX9_timeIsLeft_0 rfl)) (s_L (s_getf ok_7 (k := 0) (by decide) dX9_timeIsLeft_1 qw_319))) (s_N (s_L (s_getf ok_5 (k := 2) (by decide) dX9_timeIsLeft_4 qw_243)) (s_N (s_L (s_iload_n dX9_timeIsLeft_7 rfl)) (s_L (s_o_iadd dX9_timeIsLeft_8))))) (s_N (s_N (s_L (s_sipush dX9_timeIsLeft_9 (by decide +kernel))) (s_N (s_L (s_o_icmp_gt dX9_timeIsLeft_12 (by decide))) (s_L (s_iconst dX9_timeIsLeft_15 (by decide +kernel))))) (s_N (s_L (s_o_goto dX9_timeIsLeft_16 (by decide))) (s_N (s_L (s_iconst dX9_timeIsLeft_19 (by decide +kernel))) (s_L (s_zret rfl dX9_timeIsLeft_20)))))
/-! PlateArm.isWay -/
theorem dX9_isWay_0 : decode cX9_isWay 0 = .ok (.iload_n 0, 1) := by decide +kernel
theorem dX9_isWay_1 : decode cX9_isWay 1 = .ok (.ifCond .lt 12, 3) := by decide +kernel
theorem dX9_isWay_4 : decode cX9_isWay 4 = .ok (.iload_n 0, 1) := by decide +kernel
theorem dX9_isWay_5 : decode cX9_isWay 5 = .ok (.iconst 4, 1) := by decide +kernel
theorem dX9_isWay_6 : decode cX9_isWay 6 = .ok (.if_icmp .ge 7, 3) := by decide +kernel
theorem dX9_isWay_9 : decode cX9_isWay 9 = .ok (.iconst 1, 1) := by decide +kernel
theorem dX9_isWay_10 : decode cX9_isWay 10 = .ok (.goto 4, 3) := by decide +kernel
theorem dX9_isWay_13 : decode cX9_isWay 13 = .ok (.iconst 0, 1) := by decide +kernel
theorem dX9_isWay_14 : decode cX9_isWay 14 = .ok (.ireturn, 1) := by decide +kernel
def kX9_isWay : Nat → WOp := cN 5 (cN 1 (cN 0 (cL 0 (o_iload 1 0)) (cL 1 (o_if_lt 13 4))) (cN 4 (cL 4 (o_iload 5 0)) (cL 5 (o_push 6 4)))) (cN 9 (cN 6 (cL 6 (o_icmp_ge 13 9)) (cL 9 (o_push 10 1))) (cN 10 (cL 10 (o_goto 14)) (cN 13 (cL 13 (o_push 14 0)) (cL 14 (o_zret)))))
theorem sX9_isWay : ∀ pc, Snd tX9_isWay G1 pc (kX9_isWay pc) := s_N (s_N (s_N (s_L (s_iload_n dX9_isWay_0 rfl)) (s_L (s_o_if_lt dX9_isWay_1 (by decide)))) (s_N (s_L (s_iload_n dX9_isWay_4 rfl)) (s_L (s_iconst dX9_isWay_5 (by decide +kernel))))) (s_N (s_N (s_L (s_o_icmp_ge dX9_isWay_6 (by decide))) (s_L (s_iconst dX9_isWay_9 (by decide +kernel)))) (s_N (s_L (s_o_goto dX9_isWay_10 (by decide))) (s_N (s_L (s_iconst dX9_isWay_13 (by decide +kernel))) (s_L (s_zret rfl dX9_isWay_14)))))
/-! PlateArm.requestValue -/
theorem dX9_requestValue_0 : decode cX9_requestValue 0 = .ok (.aload_n 0, 1) := by decide +kernel
theorem dX9_requestValue_1 : decode cX9_requestValue 1 = .ok (.getfield 10, 3) := by decide +kernel
theorem dX9_requestValue_4 : decode cX9_requestValue 4 = .ok (.getfield 52, 3) := by decide +kernel
theorem dX9_requestValue_7 : decode cX9_requestValue 7 = .ok (.astore_n 3, 1) := by decide +kernel
theorem dX9_requestValue_8 : decode cX9_requestValue 8 = .ok (.iload_n 2, 1) := by decide +kernel
theorem dX9_requestValue_9 : decode cX9_requestValue 9 = .ok (.tableswitch 84 0 4 #[35, 42, 49, 56, 63], 35) := by decide +kernel
theorem dX9_requestValue_44 : decode cX9_requestValue 44 = .ok (.aload_n 3, 1) := by decide +kernel
theorem dX9_requestValue_45 : decode cX9_requestValue 45 = .ok (.getfield 297, 3) := by decide +kernel
theorem dX9_requestValue_48 : decode cX9_requestValue 48 = .ok (.iload_n 1, 1) := by decide +kernel
theorem dX9_requestValue_49 : decode cX9_requestValue 49 = .ok (.iaload, 1) := by decide +kernel
theorem dX9_requestValue_50 : decode cX9_requestValue 50 = .ok (.ireturn, 1) := by decide +kernel
theorem dX9_requestValue_51 : decode cX9_requestValue 51 = .ok (.aload_n 3, 1) := by decide +kernel
theorem dX9_requestValue_52 : decode cX9_requestValue 52 = .ok (.getfield 299, 3) := by decide +kernel
theorem dX9_requestValue_55 : decode cX9_requestValue 55 = .ok (.iload_n 1, 1) := by decide +kernel
theorem dX9_requestValue_56 : decode cX9_requestValue 56 = .ok (.iaload, 1) := by decide +kernel
theorem dX9_requestValue_57 : decode cX9_requestValue 57 = .ok (.ireturn, 1) := by decide +kernel
theorem dX9_requestValue_58 : decode cX9_requestValue 58 = .ok (.aload_n 3, 1) := by decide +kernel
theorem dX9_requestValue_59 : decode cX9_requestValue 59 = .ok (.getfield 301, 3) := by decide +kernel
theorem dX9_requestValue_62 : decode cX9_requestValue 62 = .ok (.iload_n 1, 1) := by decide +kernel
theorem dX9_requestValue_63 : decode cX9_requestValue 63 = .ok (.iaload, 1) := by decide +kernel
theorem dX9_requestValue_64 : decode cX9_requestValue 64 = .ok (.ireturn, 1) := by decide +kernel
theorem dX9_requestValue_65 : decode cX9_requestValue 65 = .ok (.aload_n 3, 1) := by decide +kernel
theorem dX9_requestValue_66 : decode cX9_requestValue 66 = .ok (.getfield 91, 3) := by decide +kernel
theorem dX9_requestValue_69 : decode cX9_requestValue 69 = .ok (.iload_n 1, 1) := by decide +kernel
theorem dX9_requestValue_70 : decode cX9_requestValue 70 = .ok (.iaload, 1) := by decide +kernel
theorem dX9_requestValue_71 : decode cX9_requestValue 71 = .ok (.ireturn, 1) := by decide +kernel
theorem dX9_requestValue_72 : decode cX9_requestValue 72 = .ok (.aload_n 3, 1) := by decide +kernel
theorem dX9_requestValue_73 : decode cX9_requestValue 73 = .ok (.getfield 297, 3) := by decide +kernel
theorem dX9_requestValue_76 : decode cX9_requestValue 76 = .ok (.iload_n 1, 1) := by decide +kernel
theorem dX9_requestValue_77 : decode cX9_requestValue 77 = .ok (.iaload, 1) := by decide +kernel
theorem dX9_requestValue_78 : decode cX9_requestValue 78 = .ok (.aload_n 0, 1) := by decide +kernel
theorem dX9_requestValue_79 : decode cX9_requestValue 79 = .ok (.getfield 10, 3) := by decide +kernel
theorem dX9_requestValue_82 : decode cX9_requestValue 82 = .ok (.getfield 145, 3) := by decide +kernel
theorem dX9_requestValue_85 : decode cX9_requestValue 85 = .ok (.getfield 149, 3) := by decide +kernel
theorem dX9_requestValue_88 : decode cX9_requestValue 88 = .ok (.isub, 1) := by decide +kernel
theorem dX9_requestValue_89 : decode cX9_requestValue 89 = .ok (.invokestatic 304, 3) := by decide +kernel
theorem dX9_requestValue_92 : decode cX9_requestValue 92 = .ok (.ireturn, 1) := by decide +kernel
theorem dX9_requestValue_93 : decode cX9_requestValue 93 = .ok (.aload_n 0, 1) := by decide +kernel
theorem dX9_requestValue_94 : decode cX9_requestValue 94 = .ok (.getfield 10, 3) := by decide +kernel
theorem dX9_requestValue_97 : decode cX9_requestValue 97 = .ok (.getfield 77, 3) := by decide +kernel
theorem dX9_requestValue_100 : decode cX9_requestValue 100 = .ok (.aload_n 3, 1) := by decide +kernel
theorem dX9_requestValue_101 : decode cX9_requestValue 101 = .ok (.getfield 301, 3) := by decide +kernel
theorem dX9_requestValue_104 : decode cX9_requestValue 104 = .ok (.iload_n 1, 1) := by decide +kernel
theorem dX9_requestValue_105 : decode cX9_requestValue 105 = .ok (.iaload, 1) := by decide +kernel
theorem dX9_requestValue_106 : decode cX9_requestValue 106 = .ok (.if_icmp .le 7, 3) := by decide +kernel
theorem dX9_requestValue_109 : decode cX9_requestValue 109 = .ok (.iconst 1, 1) := by decide +kernel
theorem dX9_requestValue_110 : decode cX9_requestValue 110 = .ok (.goto 4, 3) := by decide +kernel
theorem dX9_requestValue_113 : decode cX9_requestValue 113 = .ok (.iconst 0, 1) := by decide +kernel
theorem dX9_requestValue_114 : decode cX9_requestValue 114 = .ok (.ireturn, 1) := by decide +kernel
def kX9_requestValue : Nat → WOp := cN 69 (cN 51 (cN 9 (cN 4 (cN 0 (cL 0 (o_aload 1 0)) (cN 1 (cL 1 (o_getf 4 7 0)) (cL 4 (o_getf 7 5 5)))) (cN 7 (cL 7 (o_astore 8 3)) (cN 8 (cL 8 (o_iload 9 2)) (cL 9 (o_tsw 0 [44, 51, 58, 65, 72] 93))))) (cN 48 (cN 44 (cL 44 (o_aload 45 3)) (cN 45 (cL 45 (o_getf 48 4 3)) (cL 48 (o_iload 49 1)))) (cN 49 (cL 49 (o_iald 50)) (cN 50 (cL 50 (o_iret)) (cL 51 (o_aload 52 3)))))) (cN 59 (cN 56 (cN 52 (cL 52 (o_getf 55 4 4)) (cN 55 (cL 55 (o_iload 56 1)) (cL 56 (o_iald 57)))) (cN 57 (cL 57 (o_iret)) (cN 58 (cL 58 (o_aload 59 3)) (cL 59 (o_getf 62 4 5))))) (cN 64 (cN 62 (cL 62 (o_iload 63 1)) (cN 63 (cL 63 (o_iald 64)) (cL 64 (o_iret)))) (cN 65 (cL 65 (o_aload 66 3)) (cN 66 (cL 66 (o_getf 69 4 6)) (cL 69 (o_iload 70 1))))))) (cN 89 (cN 77 (cN 72 (cN 70 (cL 70 (o_iald 71)) (cN 71 (cL 71 (o_iret)) (cL 72 (o_aload 73 3)))) (cN 73 (cL 73 (o_getf 76 4 3)) (cN 76 (cL 76 (o_iload 77 1)) (cL 77 (o_iald 78))))) (cN 82 (cN 78 (cL 78 (o_aload 79 0)) (cN 79 (cL 79 (o_getf 82 7 0)) (cL 82 (o_getf 85 5 4)))) (cN 85 (cL 85 (o_getf 88 0 0)) (cN 88 (cL 88 (o_isub 89)) (cL 89 (o_mabs 92)))))) (cN 101 (cN 94 (cN 92 (cL 92 (o_iret)) (cN 93 (cL 93 (o_aload 94 0)) (cL 94 (o_getf 97 7 0)))) (cN 97 (cL 97 (o_getf 100 5 2)) (cN 100 (cL 100 (o_aload 101 3)) (cL 101 (o_getf 104 4 5))))) (cN 106 (cN 104 (cL 104 (o_iload 105 1)) (cN 105 (cL 105 (o_iald 106)) (cL 106 (o_icmp_le 113 109)))) (cN 110 (cN 109 (cL 109 (o_push 110 1)) (cL 110 (o_goto 114))) (cN 113 (cL 113 (o_push 114 0)) (cL 114 (o_iret)))))))
theorem sX9_requestValue : ∀ pc, Snd tX9_requestValue G1 pc (kX9_requestValue pc) := s_N (s_N (s_N (s_N (s_N (s_L (s_aload_n dX9_requestValue_0 rfl)) (s_N (s_L (s_getf ok_7 (k := 0) (by decide) dX9_requestValue_1 qw_319)) (s_L (s_getf ok_5 (k := 5) (by decide) dX9_requestValue_4 qw_249)))) (s_N (s_L (s_astore_n dX9_requestValue_7 rfl (by decide))) (s_N (s_L (s_iload_n dX9_requestValue_8 rfl)) (s_L (s_tsw dX9_requestValue_9 (by decide +kernel) (by decide) (by decide) (by decide) (by intro k t h; match k, h with | 0, h => exact ⟨35, rfl, by cases h; decide⟩ | 1, h => exact ⟨42, rfl, by cases h; decide⟩ | 2, h => exact ⟨49, rfl, by cases h; decide⟩ | 3, h => exact ⟨56, rfl, by cases h; decide⟩ | 4, h => exact ⟨63, rfl, by cases h; decide⟩ | k + 5, h => simp at h) (by decide)))))) (s_N (s_N (s_L (s_aload_n dX9_requestValue_44 rfl)) (s_N (s_L (s_getf ok_4 (k := 3) (by decide) dX9_requestValue_45 qw_158)) (s_L (s_iload_n dX9_requestValue_48 rfl)))) (s_N (s_L (s_iald dX9_requestValue_49)) (s_N (s_L (s_iret rfl dX9_requestValue_50)) (s_L (s_aload_n dX9_requestValue_51 rfl)))))) (s_N (s_N (s_N (s_L (s_getf ok_4 (k := 4) (by decide) dX9_requestValue_52 qw_161)) (s_N (s_L (s_iload_n dX9_requestValue_55 rfl)) (s_L (s_iald dX9_requestValue_56)))) (s_N (s_L (s_iret rfl dX9_requestValue_57)) (s_N (s_L (s_aload_n dX9_requestValue_58 rfl)) (s_L (s_getf ok_4 (k := 5) (by decide) dX9_requestValue_59 qw_164))))) (s_N (s_N (s_L (s_iload_n dX9_requestValue_62 rfl)) (s_N (s_L (s_iald dX9_requestValue_63)) (s_L (s_iret rfl dX9_requestValue_64)))) (s_N (s_L (s_aload_n dX9_requestValue_65 rfl)) (s_N (s_L (s_getf ok_4 (k := 6) (by decide) dX9_requestValue_66 qw_166)) (s_L (s_iload_n dX9_requestValue_69 rfl))))))) (s_N (s_N (s_N (s_N (s_L (s_iald dX9_requestValue_70)) (s_N (s_L (s_iret rfl dX9_requestValue_71)) (s_L (s_aload_n dX9_requestValue_72 rfl)))) (s_N (s_L (s_getf ok_4 (k := 3) (by decide) dX9_requestValue_73 qw_158)) (s_N (s_L (s_iload_n dX9_requestValue_76 rfl)) (s_L (s_iald dX9_requestValue_77))))) (s_N (s_N (s_L (s_aload_n dX9_requestValue_78 rfl)) (s_N (s_L (s_getf ok_7 (k := 0) (by decide) dX9_requestValue_79 qw_319)) (s_L (s_getf ok_5 (k := 4) (by decide) dX9_requestValue_82 qw_247)))) (s_N (s_L (s_getf ok_0 (k := 0) (by decide) dX9_requestValue_85 qw_117)) (s_N (s_L (s_o_isub dX9_requestValue_88)) (s_L (s_mabs qw_766 qw_395 qw_88 qw_396 (by decide) (by decide) dX9_requestValue_89)))))) (s_N (s_N (s_N (s_L (s_iret rfl dX9_requestValue_92)) (s_N (s_L (s_aload_n dX9_requestValue_93 rfl)) (s_L (s_getf ok_7 (k := 0) (by decide) dX9_requestValue_94 qw_319)))) (s_N (s_L (s_getf ok_5 (k := 2) (by decide) dX9_requestValue_97 qw_243)) (s_N (s_L (s_aload_n dX9_requestValue_100 rfl)) (s_L (s_getf ok_4 (k := 5) (by decide) dX9_requestValue_101 qw_164))))) (s_N (s_N (s_L (s_iload_n dX9_requestValue_104 rfl)) (s_N (s_L (s_iald dX9_requestValue_105)) (s_L (s_o_icmp_le dX9_requestValue_106 (by decide))))) (s_N (s_N (s_L (s_iconst dX9_requestValue_109 (by decide +kernel))) (s_L (s_o_goto dX9_requestValue_110 (by decide)))) (s_N (s_L (s_iconst dX9_requestValue_113 (by decide +kernel))) (s_L (s_iret rfl dX9_requestValue_114)))))))
/-! PlateArm.forecastAll -/
theorem dX9_forecastAll_0 : decode cX9_forecastAll 0 = .ok (.iconst 0, 1) := by decide +kernel
theorem dX9_forecastAll_1 : decode cX9_forecastAll 1 = .ok (.istore_n 1, 1) := by decide +kernel
theorem dX9_forecastAll_2 : decode cX9_forecastAll 2 = .ok (.iload_n 1, 1) := by decide +kernel
theorem dX9_forecastAll_3 : decode cX9_forecastAll 3 = .ok (.iconst 4, 1) := by decide +kernel
theorem dX9_forecastAll_4 : decode cX9_forecastAll 4 = .ok (.if_icmp .ge 14, 3) := by decide +kernel
theorem dX9_forecastAll_7 : decode cX9_forecastAll 7 = .ok (.aload_n 0, 1) := by decide +kernel
theorem dX9_forecastAll_8 : decode cX9_forecastAll 8 = .ok (.iload_n 1, 1) := by decide +kernel
theorem dX9_forecastAll_9 : decode cX9_forecastAll 9 = .ok (.invokevirtual 218, 3) := by decide +kernel
theorem dX9_forecastAll_12 : decode cX9_forecastAll 12 = .ok (.iinc 1 1, 3) := by decide +kernel
theorem dX9_forecastAll_15 : decode cX9_forecastAll 15 = .ok (.goto (-13), 3) := by decide +kernel
theorem dX9_forecastAll_18 : decode cX9_forecastAll 18 = .ok (.return_, 1) := by decide +kernel
theorem cc_X9_forecastAll_X9_forecast : CallC tX9_forecastAll tX9_forecast 1 := ⟨by decide +kernel, by decide +kernel, by decide +kernel, by decide, by decide, qw_70, qw_352⟩
def kX9_forecastAll : Nat → WOp := cN 4 (cN 1 (cN 0 (cL 0 (o_push 1 0)) (cL 1 (o_istore 2 1))) (cN 2 (cL 2 (o_iload 3 1)) (cN 3 (cL 3 (o_push 4 4)) (cL 4 (o_icmp_ge 18 7))))) (cN 9 (cN 7 (cL 7 (o_aload 8 0)) (cN 8 (cL 8 (o_iload 9 1)) (cL 9 (o_callV 12 7 1 tX9_forecast 0 0)))) (cN 12 (cL 12 (o_iinc 15 1 1)) (cN 15 (cL 15 (o_goto 2)) (cL 18 (o_vret)))))
theorem sX9_forecastAll : ∀ pc, Snd tX9_forecastAll G1 pc (kX9_forecastAll pc) := s_N (s_N (s_N (s_L (s_iconst dX9_forecastAll_0 (by decide +kernel))) (s_L (s_istore_n dX9_forecastAll_1 rfl (by decide)))) (s_N (s_L (s_iload_n dX9_forecastAll_2 rfl)) (s_N (s_L (s_iconst dX9_forecastAll_3 (by decide +kernel))) (s_L (s_o_icmp_ge dX9_forecastAll_4 (by decide)))))) (s_N (s_N (s_L (s_aload_n dX9_forecastAll_7 rfl)) (s_N (s_L (s_iload_n dX9_forecastAll_8 rfl)) (s_L (s_callV (d' := tX9_forecast) (mc := 0) (ms := 0) ok_7 cc_X9_forecastAll_X9_forecast qw_349 qw_351 qw_1 dX9_forecastAll_9)))) (s_N (s_L (s_iinc (v := 1) dX9_forecastAll_12 (by decide +kernel) (by decide))) (s_N (s_L (s_o_goto dX9_forecastAll_15 (by decide))) (s_L (s_vret rfl dX9_forecastAll_18)))))
/-! PlateArm.forecast -/
theorem dX9_forecast_0 : decode cX9_forecast 0 = .ok (.aload_n 0, 1) := by decide +kernel
theorem dX9_forecast_1 : decode cX9_forecast 1 = .ok (.getfield 16, 3) := by decide +kernel
theorem dX9_forecast_4 : decode cX9_forecast 4 = .ok (.aload_n 0, 1) := by decide +kernel
theorem dX9_forecast_5 : decode cX9_forecast 5 = .ok (.getfield 10, 3) := by decide +kernel
theorem dX9_forecast_8 : decode cX9_forecast 8 = .ok (.invokevirtual 124, 3) := by decide +kernel
theorem dX9_forecast_11 : decode cX9_forecast 11 = .ok (.aload_n 0, 1) := by decide +kernel
theorem dX9_forecast_12 : decode cX9_forecast 12 = .ok (.getfield 16, 3) := by decide +kernel
theorem dX9_forecast_15 : decode cX9_forecast 15 = .ok (.getfield 102, 3) := by decide +kernel
theorem dX9_forecast_18 : decode cX9_forecast 18 = .ok (.iconst 0, 1) := by decide +kernel
theorem dX9_forecast_19 : decode cX9_forecast 19 = .ok (.iload_n 1, 1) := by decide +kernel
theorem dX9_forecast_20 : decode cX9_forecast 20 = .ok (.iastore, 1) := by decide +kernel
theorem dX9_forecast_21 : decode cX9_forecast 21 = .ok (.aload_n 0, 1) := by decide +kernel
theorem dX9_forecast_22 : decode cX9_forecast 22 = .ok (.getfield 25, 3) := by decide +kernel
theorem dX9_forecast_25 : decode cX9_forecast 25 = .ok (.iload_n 1, 1) := by decide +kernel
theorem dX9_forecast_26 : decode cX9_forecast 26 = .ok (.aaload, 1) := by decide +kernel
theorem dX9_forecast_27 : decode cX9_forecast 27 = .ok (.astore_n 2, 1) := by decide +kernel
theorem dX9_forecast_28 : decode cX9_forecast 28 = .ok (.aload_n 2, 1) := by decide +kernel
theorem dX9_forecast_29 : decode cX9_forecast 29 = .ok (.iconst 0, 1) := by decide +kernel
theorem dX9_forecast_30 : decode cX9_forecast 30 = .ok (.aload_n 0, 1) := by decide +kernel
theorem dX9_forecast_31 : decode cX9_forecast 31 = .ok (.getfield 16, 3) := by decide +kernel
theorem dX9_forecast_34 : decode cX9_forecast 34 = .ok (.invokevirtual 128, 3) := by decide +kernel
theorem dX9_forecast_37 : decode cX9_forecast 37 = .ok (.iastore, 1) := by decide +kernel
theorem dX9_forecast_38 : decode cX9_forecast 38 = .ok (.aload_n 2, 1) := by decide +kernel
theorem dX9_forecast_39 : decode cX9_forecast 39 = .ok (.iconst 1, 1) := by decide +kernel
theorem dX9_forecast_40 : decode cX9_forecast 40 = .ok (.aload_n 0, 1) := by decide +kernel
theorem dX9_forecast_41 : decode cX9_forecast 41 = .ok (.getfield 16, 3) := by decide +kernel
theorem dX9_forecast_44 : decode cX9_forecast 44 = .ok (.getfield 112, 3) := by decide +kernel
theorem dX9_forecast_47 : decode cX9_forecast 47 = .ok (.getfield 116, 3) := by decide +kernel
theorem dX9_forecast_50 : decode cX9_forecast 50 = .ok (.aload_n 0, 1) := by decide +kernel
theorem dX9_forecast_51 : decode cX9_forecast 51 = .ok (.getfield 10, 3) := by decide +kernel
theorem dX9_forecast_54 : decode cX9_forecast 54 = .ok (.getfield 112, 3) := by decide +kernel
theorem dX9_forecast_57 : decode cX9_forecast 57 = .ok (.getfield 116, 3) := by decide +kernel
theorem dX9_forecast_60 : decode cX9_forecast 60 = .ok (.isub, 1) := by decide +kernel
theorem dX9_forecast_61 : decode cX9_forecast 61 = .ok (.iastore, 1) := by decide +kernel
theorem dX9_forecast_62 : decode cX9_forecast 62 = .ok (.aload_n 2, 1) := by decide +kernel
theorem dX9_forecast_63 : decode cX9_forecast 63 = .ok (.iconst 2, 1) := by decide +kernel
theorem dX9_forecast_64 : decode cX9_forecast 64 = .ok (.aload_n 0, 1) := by decide +kernel
theorem dX9_forecast_65 : decode cX9_forecast 65 = .ok (.getfield 16, 3) := by decide +kernel
theorem dX9_forecast_68 : decode cX9_forecast 68 = .ok (.getfield 179, 3) := by decide +kernel
theorem dX9_forecast_71 : decode cX9_forecast 71 = .ok (.getfield 183, 3) := by decide +kernel
theorem dX9_forecast_74 : decode cX9_forecast 74 = .ok (.aload_n 0, 1) := by decide +kernel
theorem dX9_forecast_75 : decode cX9_forecast 75 = .ok (.getfield 10, 3) := by decide +kernel
theorem dX9_forecast_78 : decode cX9_forecast 78 = .ok (.getfield 179, 3) := by decide +kernel
theorem dX9_forecast_81 : decode cX9_forecast 81 = .ok (.getfield 183, 3) := by decide +kernel
theorem dX9_forecast_84 : decode cX9_forecast 84 = .ok (.isub, 1) := by decide +kernel
theorem dX9_forecast_85 : decode cX9_forecast 85 = .ok (.iastore, 1) := by decide +kernel
theorem dX9_forecast_86 : decode cX9_forecast 86 = .ok (.aload_n 2, 1) := by decide +kernel
theorem dX9_forecast_87 : decode cX9_forecast 87 = .ok (.iconst 3, 1) := by decide +kernel
theorem dX9_forecast_88 : decode cX9_forecast 88 = .ok (.aload_n 0, 1) := by decide +kernel
theorem dX9_forecast_89 : decode cX9_forecast 89 = .ok (.getfield 16, 3) := by decide +kernel
theorem dX9_forecast_92 : decode cX9_forecast 92 = .ok (.getfield 179, 3) := by decide +kernel
theorem dX9_forecast_95 : decode cX9_forecast 95 = .ok (.getfield 191, 3) := by decide +kernel
theorem dX9_forecast_98 : decode cX9_forecast 98 = .ok (.aload_n 0, 1) := by decide +kernel
theorem dX9_forecast_99 : decode cX9_forecast 99 = .ok (.getfield 10, 3) := by decide +kernel
theorem dX9_forecast_102 : decode cX9_forecast 102 = .ok (.getfield 179, 3) := by decide +kernel
theorem dX9_forecast_105 : decode cX9_forecast 105 = .ok (.getfield 191, 3) := by decide +kernel
theorem dX9_forecast_108 : decode cX9_forecast 108 = .ok (.isub, 1) := by decide +kernel
theorem dX9_forecast_109 : decode cX9_forecast 109 = .ok (.iastore, 1) := by decide +kernel
theorem dX9_forecast_110 : decode cX9_forecast 110 = .ok (.aload_n 2, 1) := by decide +kernel
theorem dX9_forecast_111 : decode cX9_forecast 111 = .ok (.iconst 4, 1) := by decide +kernel
theorem dX9_forecast_112 : decode cX9_forecast 112 = .ok (.aload_n 0, 1) := by decide +kernel
theorem dX9_forecast_113 : decode cX9_forecast 113 = .ok (.getfield 16, 3) := by decide +kernel
theorem dX9_forecast_116 : decode cX9_forecast 116 = .ok (.getfield 145, 3) := by decide +kernel
theorem dX9_forecast_119 : decode cX9_forecast 119 = .ok (.getfield 157, 3) := by decide +kernel
theorem dX9_forecast_122 : decode cX9_forecast 122 = .ok (.iastore, 1) := by decide +kernel
theorem dX9_forecast_123 : decode cX9_forecast 123 = .ok (.aload_n 2, 1) := by decide +kernel
theorem dX9_forecast_124 : decode cX9_forecast 124 = .ok (.iconst 5, 1) := by decide +kernel
theorem dX9_forecast_125 : decode cX9_forecast 125 = .ok (.aload_n 2, 1) := by decide +kernel
theorem dX9_forecast_126 : decode cX9_forecast 126 = .ok (.iconst 2, 1) := by decide +kernel
theorem dX9_forecast_127 : decode cX9_forecast 127 = .ok (.iaload, 1) := by decide +kernel
theorem dX9_forecast_128 : decode cX9_forecast 128 = .ok (.aload_n 0, 1) := by decide +kernel
theorem dX9_forecast_129 : decode cX9_forecast 129 = .ok (.getfield 16, 3) := by decide +kernel
theorem dX9_forecast_132 : decode cX9_forecast 132 = .ok (.getfield 179, 3) := by decide +kernel
theorem dX9_forecast_135 : decode cX9_forecast 135 = .ok (.getfield 188, 3) := by decide +kernel
theorem dX9_forecast_138 : decode cX9_forecast 138 = .ok (.iadd, 1) := by decide +kernel
theorem dX9_forecast_139 : decode cX9_forecast 139 = .ok (.aload_n 0, 1) := by decide +kernel
theorem dX9_forecast_140 : decode cX9_forecast 140 = .ok (.getfield 10, 3) := by decide +kernel
theorem dX9_forecast_143 : decode cX9_forecast 143 = .ok (.getfield 179, 3) := by decide +kernel
theorem dX9_forecast_146 : decode cX9_forecast 146 = .ok (.getfield 188, 3) := by decide +kernel
theorem dX9_forecast_149 : decode cX9_forecast 149 = .ok (.isub, 1) := by decide +kernel
theorem dX9_forecast_150 : decode cX9_forecast 150 = .ok (.iastore, 1) := by decide +kernel
theorem dX9_forecast_151 : decode cX9_forecast 151 = .ok (.return_, 1) := by decide +kernel
theorem cc_X9_forecast_X6_copyFrom : CallC tX9_forecast tX6_copyFrom 1 := ⟨by decide +kernel, by decide +kernel, by decide +kernel, by decide, by decide, qw_71, qw_356⟩
theorem cc_X9_forecast_X6_passUntilEmpty : CallC tX9_forecast tX6_passUntilEmpty 0 := ⟨by decide +kernel, by decide +kernel, by decide +kernel, by decide, by decide, qw_71, qw_381⟩
def kX9_forecast : Nat → WOp := cN 74 (cN 31 (cN 19 (cN 8 (cN 1 (cN 0 (cL 0 (o_aload 1 0)) (cL 1 (o_getf 4 7 1))) (cN 4 (cL 4 (o_aload 5 0)) (cN 5 (cL 5 (o_getf 8 7 0)) (cL 8 (o_callV 11 5 1 tX6_copyFrom 0 0))))) (cN 12 (cN 11 (cL 11 (o_aload 12 0)) (cL 12 (o_getf 15 7 1))) (cN 15 (cL 15 (o_getf 18 5 3)) (cN 18 (cL 18 (o_push 19 0)) (cL 19 (o_iload 20 1)))))) (cN 26 (cN 21 (cN 20 (cL 20 (o_iast 21)) (cL 21 (o_aload 22 0))) (cN 22 (cL 22 (o_getf 25 7 4)) (cN 25 (cL 25 (o_iload 26 1)) (cL 26 (o_aald 27 4))))) (cN 28 (cN 27 (cL 27 (o_astore 28 2)) (cL 28 (o_aload 29 2))) (cN 29 (cL 29 (o_push 30 0)) (cN 30 (cL 30 (o_aload 31 0)) (cL 31 (o_getf 34 7 1))))))) (cN 51 (cN 40 (cN 37 (cN 34 (cL 34 (o_callV 37 5 0 tX6_passUntilEmpty 0 0)) (cL 37 (o_iast 38))) (cN 38 (cL 38 (o_aload 39 2)) (cN 39 (cL 39 (o_push 40 1)) (cL 40 (o_aload 41 0))))) (cN 44 (cN 41 (cL 41 (o_getf 44 7 1)) (cL 44 (o_getf 47 5 6))) (cN 47 (cL 47 (o_getf 50 3 0)) (cN 50 (cL 50 (o_aload 51 0)) (cL 51 (o_getf 54 7 0)))))) (cN 62 (cN 57 (cN 54 (cL 54 (o_getf 57 5 6)) (cL 57 (o_getf 60 3 0))) (cN 60 (cL 60 (o_isub 61)) (cN 61 (cL 61 (o_iast 62)) (cL 62 (o_aload 63 2))))) (cN 65 (cN 63 (cL 63 (o_push 64 2)) (cN 64 (cL 64 (o_aload 65 0)) (cL 65 (o_getf 68 7 1)))) (cN 68 (cL 68 (o_getf 71 5 7)) (cN 71 (cL 71 (o_getf 74 6 0)) (cL 74 (o_aload 75 0)))))))) (cN 112 (cN 92 (cN 85 (cN 78 (cN 75 (cL 75 (o_getf 78 7 0)) (cL 78 (o_getf 81 5 7))) (cN 81 (cL 81 (o_getf 84 6 0)) (cN 84 (cL 84 (o_isub 85)) (cL 85 (o_iast 86))))) (cN 87 (cN 86 (cL 86 (o_aload 87 2)) (cL 87 (o_push 88 3))) (cN 88 (cL 88 (o_aload 89 0)) (cN 89 (cL 89 (o_getf 92 7 1)) (cL 92 (o_getf 95 5 7)))))) (cN 105 (cN 98 (cN 95 (cL 95 (o_getf 98 6 2)) (cL 98 (o_aload 99 0))) (cN 99 (cL 99 (o_getf 102 7 0)) (cN 102 (cL 102 (o_getf 105 5 7)) (cL 105 (o_getf 108 6 2))))) (cN 109 (cN 108 (cL 108 (o_isub 109)) (cL 109 (o_iast 110))) (cN 110 (cL 110 (o_aload 111 2)) (cN 111 (cL 111 (o_push 112 4)) (cL 112 (o_aload 113 0))))))) (cN 128 (cN 123 (cN 116 (cN 113 (cL 113 (o_getf 116 7 1)) (cL 116 (o_getf 119 5 4))) (cN 119 (cL 119 (o_getf 122 0 2)) (cN 122 (cL 122 (o_iast 123)) (cL 123 (o_aload 124 2))))) (cN 125 (cN 124 (cL 124 (o_push 125 5)) (cL 125 (o_aload 126 2))) (cN 126 (cL 126 (o_push 127 2)) (cN 127 (cL 127 (o_iald 128)) (cL 128 (o_aload 129 0)))))) (cN 139 (cN 132 (cN 129 (cL 129 (o_getf 132 7 1)) (cL 132 (o_getf 135 5 7))) (cN 135 (cL 135 (o_getf 138 6 1)) (cN 138 (cL 138 (o_iadd 139)) (cL 139 (o_aload 140 0))))) (cN 146 (cN 140 (cL 140 (o_getf 143 7 0)) (cN 143 (cL 143 (o_getf 146 5 7)) (cL 146 (o_getf 149 6 1)))) (cN 149 (cL 149 (o_isub 150)) (cN 150 (cL 150 (o_iast 151)) (cL 151 (o_vret))))))))
theorem sX9_forecast : ∀ pc, Snd tX9_forecast G1 pc (kX9_forecast pc) := s_N (s_N (s_N (s_N (s_N (s_N (s_L (s_aload_n dX9_forecast_0 rfl)) (s_L (s_getf ok_7 (k := 1) (by decide) dX9_forecast_1 qw_320))) (s_N (s_L (s_aload_n dX9_forecast_4 rfl)) (s_N (s_L (s_getf ok_7 (k := 0) (by decide) dX9_forecast_5 qw_319)) (s_L (s_callV (d' := tX6_copyFrom) (mc := 0) (ms := 0) ok_5 cc_X9_forecast_X6_copyFrom qw_353 qw_354 qw_355 dX9_forecast_8))))) (s_N (s_N (s_L (s_aload_n dX9_forecast_11 rfl)) (s_L (s_getf ok_7 (k := 1) (by decide) dX9_forecast_12 qw_320))) (s_N (s_L (s_getf ok_5 (k := 3) (by decide) dX9_forecast_15 qw_245)) (s_N (s_L (s_iconst dX9_forecast_18 (by decide +kernel))) (s_L (s_iload_n dX9_forecast_19 rfl)))))) (s_N (s_N (s_N (s_L (s_iast dX9_forecast_20)) (s_L (s_aload_n dX9_forecast_21 rfl))) (s_N (s_L (s_getf ok_7 (k := 4) (by decide) dX9_forecast_22 qw_323)) (s_N (s_L (s_iload_n dX9_forecast_25 rfl)) (s_L (s_aald (by decide) dX9_forecast_26))))) (s_N (s_N (s_L (s_astore_n dX9_forecast_27 rfl (by decide))) (s_L (s_aload_n dX9_forecast_28 rfl))) (s_N (s_L (s_iconst dX9_forecast_29 (by decide +kernel))) (s_N (s_L (s_aload_n dX9_forecast_30 rfl)) (s_L (s_getf ok_7 (k := 1) (by decide) dX9_forecast_31 qw_320))))))) (s_N (s_N (s_N (s_N (s_L (s_callV (d' := tX6_passUntilEmpty) (mc := 0) (ms := 0) ok_5 cc_X9_forecast_X6_passUntilEmpty qw_378 qw_379 qw_380 dX9_forecast_34)) (s_L (s_iast dX9_forecast_37))) (s_N (s_L (s_aload_n dX9_forecast_38 rfl)) (s_N (s_L (s_iconst dX9_forecast_39 (by decide +kernel))) (s_L (s_aload_n dX9_forecast_40 rfl))))) (s_N (s_N (s_L (s_getf ok_7 (k := 1) (by decide) dX9_forecast_41 qw_320)) (s_L (s_getf ok_5 (k := 6) (by decide) dX9_forecast_44 qw_251))) (s_N (s_L (s_getf ok_3 (k := 0) (by decide) dX9_forecast_47 qw_189)) (s_N (s_L (s_aload_n dX9_forecast_50 rfl)) (s_L (s_getf ok_7 (k := 0) (by decide) dX9_forecast_51 qw_319)))))) (s_N (s_N (s_N (s_L (s_getf ok_5 (k := 6) (by decide) dX9_forecast_54 qw_251)) (s_L (s_getf ok_3 (k := 0) (by decide) dX9_forecast_57 qw_189))) (s_N (s_L (s_o_isub dX9_forecast_60)) (s_N (s_L (s_iast dX9_forecast_61)) (s_L (s_aload_n dX9_forecast_62 rfl))))) (s_N (s_N (s_L (s_iconst dX9_forecast_63 (by decide +kernel))) (s_N (s_L (s_aload_n dX9_forecast_64 rfl)) (s_L (s_getf ok_7 (k := 1) (by decide) dX9_forecast_65 qw_320)))) (s_N (s_L (s_getf ok_5 (k := 7) (by decide) dX9_forecast_68 qw_253)) (s_N (s_L (s_getf ok_6 (k := 0) (by decide) dX9_forecast_71 qw_203)) (s_L (s_aload_n dX9_forecast_74 rfl)))))))) (s_N (s_N (s_N (s_N (s_N (s_L (s_getf ok_7 (k := 0) (by decide) dX9_forecast_75 qw_319)) (s_L (s_getf ok_5 (k := 7) (by decide) dX9_forecast_78 qw_253))) (s_N (s_L (s_getf ok_6 (k := 0) (by decide) dX9_forecast_81 qw_203)) (s_N (s_L (s_o_isub dX9_forecast_84)) (s_L (s_iast dX9_forecast_85))))) (s_N (s_N (s_L (s_aload_n dX9_forecast_86 rfl)) (s_L (s_iconst dX9_forecast_87 (by decide +kernel)))) (s_N (s_L (s_aload_n dX9_forecast_88 rfl)) (s_N (s_L (s_getf ok_7 (k := 1) (by decide) dX9_forecast_89 qw_320)) (s_L (s_getf ok_5 (k := 7) (by decide) dX9_forecast_92 qw_253)))))) (s_N (s_N (s_N (s_L (s_getf ok_6 (k := 2) (by decide) dX9_forecast_95 qw_209)) (s_L (s_aload_n dX9_forecast_98 rfl))) (s_N (s_L (s_getf ok_7 (k := 0) (by decide) dX9_forecast_99 qw_319)) (s_N (s_L (s_getf ok_5 (k := 7) (by decide) dX9_forecast_102 qw_253)) (s_L (s_getf ok_6 (k := 2) (by decide) dX9_forecast_105 qw_209))))) (s_N (s_N (s_L (s_o_isub dX9_forecast_108)) (s_L (s_iast dX9_forecast_109))) (s_N (s_L (s_aload_n dX9_forecast_110 rfl)) (s_N (s_L (s_iconst dX9_forecast_111 (by decide +kernel))) (s_L (s_aload_n dX9_forecast_112 rfl))))))) (s_N (s_N (s_N (s_N (s_L (s_getf ok_7 (k := 1) (by decide) dX9_forecast_113 qw_320)) (s_L (s_getf ok_5 (k := 4) (by decide) dX9_forecast_116 qw_247))) (s_N (s_L (s_getf ok_0 (k := 2) (by decide) dX9_forecast_119 qw_123)) (s_N (s_L (s_iast dX9_forecast_122)) (s_L (s_aload_n dX9_forecast_123 rfl))))) (s_N (s_N (s_L (s_iconst dX9_forecast_124 (by decide +kernel))) (s_L (s_aload_n dX9_forecast_125 rfl))) (s_N (s_L (s_iconst dX9_forecast_126 (by decide +kernel))) (s_N (s_L (s_iald dX9_forecast_127)) (s_L (s_aload_n dX9_forecast_128 rfl)))))) (s_N (s_N (s_N (s_L (s_getf ok_7 (k := 1) (by decide) dX9_forecast_129 qw_320)) (s_L (s_getf ok_5 (k := 7) (by decide) dX9_forecast_132 qw_253))) (s_N (s_L (s_getf ok_6 (k := 1) (by decide) dX9_forecast_135 qw_206)) (s_N (s_L (s_o_iadd dX9_forecast_138)) (s_L (s_aload_n dX9_forecast_139 rfl))))) (s_N (s_N (s_L (s_getf ok_7 (k := 0) (by decide) dX9_forecast_140 qw_319)) (s_N (s_L (s_getf ok_5 (k := 7) (by decide) dX9_forecast_143 qw_253)) (s_L (s_getf ok_6 (k := 1) (by decide) dX9_forecast_146 qw_206)))) (s_N (s_L (s_o_isub dX9_forecast_149)) (s_N (s_L (s_iast dX9_forecast_150)) (s_L (s_vret rfl dX9_forecast_151))))))))
/-! PlateArm.bestForecast -/
theorem dX9_bestForecast_0 : decode cX9_bestForecast 0 = .ok (.iconst 0, 1) := by decide +kernel
theorem dX9_bestForecast_1 : decode cX9_bestForecast 1 = .ok (.istore_n 1, 1) := by decide +kernel
theorem dX9_bestForecast_2 : decode cX9_bestForecast 2 = .ok (.iconst 1, 1) := by decide +kernel
theorem dX9_bestForecast_3 : decode cX9_bestForecast 3 = .ok (.istore_n 2, 1) := by decide +kernel
theorem dX9_bestForecast_4 : decode cX9_bestForecast 4 = .ok (.iload_n 2, 1) := by decide +kernel
theorem dX9_bestForecast_5 : decode cX9_bestForecast 5 = .ok (.iconst 4, 1) := by decide +kernel
theorem dX9_bestForecast_6 : decode cX9_bestForecast 6 = .ok (.if_icmp .ge 59, 3) := by decide +kernel
theorem dX9_bestForecast_9 : decode cX9_bestForecast 9 = .ok (.aload_n 0, 1) := by decide +kernel
theorem dX9_bestForecast_10 : decode cX9_bestForecast 10 = .ok (.getfield 25, 3) := by decide +kernel
theorem dX9_bestForecast_13 : decode cX9_bestForecast 13 = .ok (.iload_n 2, 1) := by decide +kernel
theorem dX9_bestForecast_14 : decode cX9_bestForecast 14 = .ok (.aaload, 1) := by decide +kernel
theorem dX9_bestForecast_15 : decode cX9_bestForecast 15 = .ok (.iconst 5, 1) := by decide +kernel
theorem dX9_bestForecast_16 : decode cX9_bestForecast 16 = .ok (.iaload, 1) := by decide +kernel
theorem dX9_bestForecast_17 : decode cX9_bestForecast 17 = .ok (.aload_n 0, 1) := by decide +kernel
theorem dX9_bestForecast_18 : decode cX9_bestForecast 18 = .ok (.getfield 25, 3) := by decide +kernel
theorem dX9_bestForecast_21 : decode cX9_bestForecast 21 = .ok (.iload_n 1, 1) := by decide +kernel
theorem dX9_bestForecast_22 : decode cX9_bestForecast 22 = .ok (.aaload, 1) := by decide +kernel
theorem dX9_bestForecast_23 : decode cX9_bestForecast 23 = .ok (.iconst 5, 1) := by decide +kernel
theorem dX9_bestForecast_24 : decode cX9_bestForecast 24 = .ok (.iaload, 1) := by decide +kernel
theorem dX9_bestForecast_25 : decode cX9_bestForecast 25 = .ok (.invokestatic 309, 3) := by decide +kernel
theorem dX9_bestForecast_28 : decode cX9_bestForecast 28 = .ok (.istore_n 3, 1) := by decide +kernel
theorem dX9_bestForecast_29 : decode cX9_bestForecast 29 = .ok (.iload_n 3, 1) := by decide +kernel
theorem dX9_bestForecast_30 : decode cX9_bestForecast 30 = .ok (.ifCond .ne 23, 3) := by decide +kernel
theorem dX9_bestForecast_33 : decode cX9_bestForecast 33 = .ok (.aload_n 0, 1) := by decide +kernel
theorem dX9_bestForecast_34 : decode cX9_bestForecast 34 = .ok (.getfield 25, 3) := by decide +kernel
theorem dX9_bestForecast_37 : decode cX9_bestForecast 37 = .ok (.iload_n 2, 1) := by decide +kernel
theorem dX9_bestForecast_38 : decode cX9_bestForecast 38 = .ok (.aaload, 1) := by decide +kernel
theorem dX9_bestForecast_39 : decode cX9_bestForecast 39 = .ok (.iconst 0, 1) := by decide +kernel
theorem dX9_bestForecast_40 : decode cX9_bestForecast 40 = .ok (.iaload, 1) := by decide +kernel
theorem dX9_bestForecast_41 : decode cX9_bestForecast 41 = .ok (.aload_n 0, 1) := by decide +kernel
theorem dX9_bestForecast_42 : decode cX9_bestForecast 42 = .ok (.getfield 25, 3) := by decide +kernel
theorem dX9_bestForecast_45 : decode cX9_bestForecast 45 = .ok (.iload_n 1, 1) := by decide +kernel
theorem dX9_bestForecast_46 : decode cX9_bestForecast 46 = .ok (.aaload, 1) := by decide +kernel
theorem dX9_bestForecast_47 : decode cX9_bestForecast 47 = .ok (.iconst 0, 1) := by decide +kernel
theorem dX9_bestForecast_48 : decode cX9_bestForecast 48 = .ok (.iaload, 1) := by decide +kernel
theorem dX9_bestForecast_49 : decode cX9_bestForecast 49 = .ok (.invokestatic 309, 3) := by decide +kernel
theorem dX9_bestForecast_52 : decode cX9_bestForecast 52 = .ok (.istore_n 3, 1) := by decide +kernel
theorem dX9_bestForecast_53 : decode cX9_bestForecast 53 = .ok (.iload_n 3, 1) := by decide +kernel
theorem dX9_bestForecast_54 : decode cX9_bestForecast 54 = .ok (.ifCond .ge 5, 3) := by decide +kernel
theorem dX9_bestForecast_57 : decode cX9_bestForecast 57 = .ok (.iload_n 2, 1) := by decide +kernel
theorem dX9_bestForecast_58 : decode cX9_bestForecast 58 = .ok (.istore_n 1, 1) := by decide +kernel
theorem dX9_bestForecast_59 : decode cX9_bestForecast 59 = .ok (.iinc 2 1, 3) := by decide +kernel
theorem dX9_bestForecast_62 : decode cX9_bestForecast 62 = .ok (.goto (-58), 3) := by decide +kernel
theorem dX9_bestForecast_65 : decode cX9_bestForecast 65 = .ok (.iload_n 1, 1) := by decide +kernel
theorem dX9_bestForecast_66 : decode cX9_bestForecast 66 = .ok (.ireturn, 1) := by decide +kernel
theorem cc_X9_bestForecast_J6_compare_7cf53 : CallC tX9_bestForecast tJ6_compare_7cf53 2 := ⟨by decide +kernel, by decide +kernel, by decide +kernel, by decide, by decide, qw_89, qw_453⟩
def kX9_bestForecast : Nat → WOp := cN 29 (cN 14 (cN 4 (cN 1 (cN 0 (cL 0 (o_push 1 0)) (cL 1 (o_istore 2 1))) (cN 2 (cL 2 (o_push 3 1)) (cN 3 (cL 3 (o_istore 4 2)) (cL 4 (o_iload 5 2))))) (cN 9 (cN 5 (cL 5 (o_push 6 4)) (cN 6 (cL 6 (o_icmp_ge 65 9)) (cL 9 (o_aload 10 0)))) (cN 10 (cL 10 (o_getf 13 7 4)) (cN 13 (cL 13 (o_iload 14 2)) (cL 14 (o_aald 15 4)))))) (cN 21 (cN 16 (cN 15 (cL 15 (o_push 16 5)) (cL 16 (o_iald 17))) (cN 17 (cL 17 (o_aload 18 0)) (cN 18 (cL 18 (o_getf 21 7 4)) (cL 21 (o_iload 22 1))))) (cN 24 (cN 22 (cL 22 (o_aald 23 4)) (cN 23 (cL 23 (o_push 24 5)) (cL 24 (o_iald 25)))) (cN 25 (cL 25 (o_callS 28 2 tJ6_compare_7cf53 0 0)) (cN 28 (cL 28 (o_istore 29 3)) (cL 29 (o_iload 30 3))))))) (cN 46 (cN 38 (cN 33 (cN 30 (cL 30 (o_if_ne 53 33)) (cL 33 (o_aload 34 0))) (cN 34 (cL 34 (o_getf 37 7 4)) (cN 37 (cL 37 (o_iload 38 2)) (cL 38 (o_aald 39 4))))) (cN 41 (cN 39 (cL 39 (o_push 40 0)) (cN 40 (cL 40 (o_iald 41)) (cL 41 (o_aload 42 0)))) (cN 42 (cL 42 (o_getf 45 7 4)) (cN 45 (cL 45 (o_iload 46 1)) (cL 46 (o_aald 47 4)))))) (cN 54 (cN 49 (cN 47 (cL 47 (o_push 48 0)) (cN 48 (cL 48 (o_iald 49)) (cL 49 (o_callS 52 2 tJ6_compare_7cf53 0 0)))) (cN 52 (cL 52 (o_istore 53 3)) (cN 53 (cL 53 (o_iload 54 3)) (cL 54 (o_if_ge 59 57))))) (cN 59 (cN 57 (cL 57 (o_iload 58 2)) (cN 58 (cL 58 (o_istore 59 1)) (cL 59 (o_iinc 62 2 1)))) (cN 62 (cL 62 (o_goto 4)) (cN 65 (cL 65 (o_iload 66 1)) (cL 66 (o_iret)))))))
theorem sX9_bestForecast : ∀ pc, Snd tX9_bestForecast G1 pc (kX9_bestForecast pc) := s_N (s_N (s_N (s_N (s_N (s_L (s_iconst dX9_bestForecast_0 (by decide +kernel))) (s_L (s_istore_n dX9_bestForecast_1 rfl (by decide)))) (s_N (s_L (s_iconst dX9_bestForecast_2 (by decide +kernel))) (s_N (s_L (s_istore_n dX9_bestForecast_3 rfl (by decide))) (s_L (s_iload_n dX9_bestForecast_4 rfl))))) (s_N (s_N (s_L (s_iconst dX9_bestForecast_5 (by decide +kernel))) (s_N (s_L (s_o_icmp_ge dX9_bestForecast_6 (by decide))) (s_L (s_aload_n dX9_bestForecast_9 rfl)))) (s_N (s_L (s_getf ok_7 (k := 4) (by decide) dX9_bestForecast_10 qw_323)) (s_N (s_L (s_iload_n dX9_bestForecast_13 rfl)) (s_L (s_aald (by decide) dX9_bestForecast_14)))))) (s_N (s_N (s_N (s_L (s_iconst dX9_bestForecast_15 (by decide +kernel))) (s_L (s_iald dX9_bestForecast_16))) (s_N (s_L (s_aload_n dX9_bestForecast_17 rfl)) (s_N (s_L (s_getf ok_7 (k := 4) (by decide) dX9_bestForecast_18 qw_323)) (s_L (s_iload_n dX9_bestForecast_21 rfl))))) (s_N (s_N (s_L (s_aald (by decide) dX9_bestForecast_22)) (s_N (s_L (s_iconst dX9_bestForecast_23 (by decide +kernel))) (s_L (s_iald dX9_bestForecast_24)))) (s_N (s_L (s_callS (d' := tJ6_compare_7cf53) (mc := 0) (ms := 0) cc_X9_bestForecast_J6_compare_7cf53 qw_451 qw_452 dX9_bestForecast_25)) (s_N (s_L (s_istore_n dX9_bestForecast_28 rfl (by decide))) (s_L (s_iload_n dX9_bestForecast_29 rfl))))))) (s_N (s_N (s_N (s_N (s_L (s_o_if_ne dX9_bestForecast_30 (by decide))) (s_L (s_aload_n dX9_bestForecast_33 rfl))) (s_N (s_L (s_getf ok_7 (k := 4) (by decide) dX9_bestForecast_34 qw_323)) (s_N (s_L (s_iload_n dX9_bestForecast_37 rfl)) (s_L (s_aald (by decide) dX9_bestForecast_38))))) (s_N (s_N (s_L (s_iconst dX9_bestForecast_39 (by decide +kernel))) (s_N (s_L (s_iald dX9_bestForecast_40)) (s_L (s_aload_n dX9_bestForecast_41 rfl)))) (s_N (s_L (s_getf ok_7 (k := 4) (by decide) dX9_bestForecast_42 qw_323)) (s_N (s_L (s_iload_n dX9_bestForecast_45 rfl)) (s_L (s_aald (by decide) dX9_bestForecast_46)))))) (s_N (s_N (s_N (s_L (s_iconst dX9_bestForecast_47 (by decide +kernel))) (s_N (s_L (s_iald dX9_bestForecast_48)) (s_L (s_callS (d' := tJ6_compare_7cf53) (mc := 0) (ms := 0) cc_X9_bestForecast_J6_compare_7cf53 qw_451 qw_452 dX9_bestForecast_49)))) (s_N (s_L (s_istore_n dX9_bestForecast_52 rfl (by decide))) (s_N (s_L (s_iload_n dX9_bestForecast_53 rfl)) (s_L (s_o_if_ge dX9_bestForecast_54 (by decide)))))) (s_N (s_N (s_L (s_iload_n dX9_bestForecast_57 rfl)) (s_N (s_L (s_istore_n dX9_bestForecast_58 rfl (by decide))) (s_L (s_iinc (v := 1) dX9_bestForecast_59 (by decide +kernel) (by decide))))) (s_N (s_L (s_o_goto dX9_bestForecast_62 (by decide))) (s_N (s_L (s_iload_n dX9_bestForecast_65 rfl)) (s_L (s_iret rfl dX9_bestForecast_66)))))))
/-! PlateArm.save -/
theorem dX9_save_0 : decode cX9_save 0 = .ok (.aload_n 0, 1) := by decide +kernel
theorem dX9_save_1 : decode cX9_save 1 = .ok (.getfield 260, 3) := by decide +kernel
theorem dX9_save_4 : decode cX9_save 4 = .ok (.iconst 4, 1) := by decide +kernel
theorem dX9_save_5 : decode cX9_save 5 = .ok (.if_icmp .lt 7, 3) := by decide +kernel
theorem dX9_save_8 : decode cX9_save 8 = .ok (.aload_n 0, 1) := by decide +kernel
theorem dX9_save_9 : decode cX9_save 9 = .ok (.invokevirtual 314, 3) := by decide +kernel
theorem dX9_save_12 : decode cX9_save 12 = .ok (.aload_n 0, 1) := by decide +kernel
theorem dX9_save_13 : decode cX9_save 13 = .ok (.getfield 19, 3) := by decide +kernel
theorem dX9_save_16 : decode cX9_save 16 = .ok (.aload_n 0, 1) := by decide +kernel
theorem dX9_save_17 : decode cX9_save 17 = .ok (.getfield 260, 3) := by decide +kernel
theorem dX9_save_20 : decode cX9_save 20 = .ok (.aaload, 1) := by decide +kernel
theorem dX9_save_21 : decode cX9_save 21 = .ok (.aload_n 0, 1) := by decide +kernel
theorem dX9_save_22 : decode cX9_save 22 = .ok (.getfield 10, 3) := by decide +kernel
theorem dX9_save_25 : decode cX9_save 25 = .ok (.invokevirtual 124, 3) := by decide +kernel
theorem dX9_save_28 : decode cX9_save 28 = .ok (.aload_n 0, 1) := by decide +kernel
theorem dX9_save_29 : decode cX9_save 29 = .ok (.dup, 1) := by decide +kernel
theorem dX9_save_30 : decode cX9_save 30 = .ok (.getfield 260, 3) := by decide +kernel
theorem dX9_save_33 : decode cX9_save 33 = .ok (.iconst 1, 1) := by decide +kernel
theorem dX9_save_34 : decode cX9_save 34 = .ok (.iadd, 1) := by decide +kernel
theorem dX9_save_35 : decode cX9_save 35 = .ok (.putfield 260, 3) := by decide +kernel
theorem dX9_save_38 : decode cX9_save 38 = .ok (.return_, 1) := by decide +kernel
theorem cc_X9_save_X9_dropOldest : CallC tX9_save tX9_dropOldest 0 := ⟨by decide +kernel, by decide +kernel, by decide +kernel, by decide, by decide, qw_70, qw_581⟩
theorem cc_X9_save_X6_copyFrom : CallC tX9_save tX6_copyFrom 1 := ⟨by decide +kernel, by decide +kernel, by decide +kernel, by decide, by decide, qw_71, qw_356⟩
def kX9_save : Nat → WOp := cN 17 (cN 8 (cN 1 (cN 0 (cL 0 (o_aload 1 0)) (cL 1 (o_getf 4 7 3))) (cN 4 (cL 4 (o_push 5 4)) (cN 5 (cL 5 (o_icmp_lt 12 8)) (cL 8 (o_aload 9 0))))) (cN 12 (cN 9 (cL 9 (o_callV 12 7 0 tX9_dropOldest 0 0)) (cL 12 (o_aload 13 0))) (cN 13 (cL 13 (o_getf 16 7 2)) (cN 16 (cL 16 (o_aload 17 0)) (cL 17 (o_getf 20 7 3)))))) (cN 28 (cN 21 (cN 20 (cL 20 (o_aald 21 3)) (cL 21 (o_aload 22 0))) (cN 22 (cL 22 (o_getf 25 7 0)) (cN 25 (cL 25 (o_callV 28 5 1 tX6_copyFrom 0 0)) (cL 28 (o_aload 29 0))))) (cN 33 (cN 29 (cL 29 (o_dup 30)) (cN 30 (cL 30 (o_getf 33 7 3)) (cL 33 (o_push 34 1)))) (cN 34 (cL 34 (o_iadd 35)) (cN 35 (cL 35 (o_puti 38 7 3)) (cL 38 (o_vret))))))
theorem sX9_save : ∀ pc, Snd tX9_save G1 pc (kX9_save pc) := s_N (s_N (s_N (s_N (s_L (s_aload_n dX9_save_0 rfl)) (s_L (s_getf ok_7 (k := 3) (by decide) dX9_save_1 qw_322))) (s_N (s_L (s_iconst dX9_save_4 (by decide +kernel))) (s_N (s_L (s_o_icmp_lt dX9_save_5 (by decide))) (s_L (s_aload_n dX9_save_8 rfl))))) (s_N (s_N (s_L (s_callV (d' := tX9_dropOldest) (mc := 0) (ms := 0) ok_7 cc_X9_save_X9_dropOldest qw_578 qw_580 qw_17 dX9_save_9)) (s_L (s_aload_n dX9_save_12 rfl))) (s_N (s_L (s_getf ok_7 (k := 2) (by decide) dX9_save_13 qw_321)) (s_N (s_L (s_aload_n dX9_save_16 rfl)) (s_L (s_getf ok_7 (k := 3) (by decide) dX9_save_17 qw_322)))))) (s_N (s_N (s_N (s_L (s_aald (by decide) dX9_save_20)) (s_L (s_aload_n dX9_save_21 rfl))) (s_N (s_L (s_getf ok_7 (k := 0) (by decide) dX9_save_22 qw_319)) (s_N (s_L (s_callV (d' := tX6_copyFrom) (mc := 0) (ms := 0) ok_5 cc_X9_save_X6_copyFrom qw_353 qw_354 qw_355 dX9_save_25)) (s_L (s_aload_n dX9_save_28 rfl))))) (s_N (s_N (s_L (s_o_dup dX9_save_29)) (s_N (s_L (s_getf ok_7 (k := 3) (by decide) dX9_save_30 qw_322)) (s_L (s_iconst dX9_save_33 (by decide +kernel))))) (s_N (s_L (s_o_iadd dX9_save_34)) (s_N (s_L (s_puti ok_7 (k := 3) (by decide) rfl (Or.inl rfl) dX9_save_35 qw_322)) (s_L (s_vret rfl dX9_save_38))))))
/-! PlateArm.dropOldest -/
theorem dX9_dropOldest_0 : decode cX9_dropOldest 0 = .ok (.aload_n 0, 1) := by decide +kernel
theorem dX9_dropOldest_1 : decode cX9_dropOldest 1 = .ok (.getfield 19, 3) := by decide +kernel
theorem dX9_dropOldest_4 : decode cX9_dropOldest 4 = .ok (.iconst 0, 1) := by decide +kernel
theorem dX9_dropOldest_5 : decode cX9_dropOldest 5 = .ok (.aaload, 1) := by decide +kernel
theorem dX9_dropOldest_6 : decode cX9_dropOldest 6 = .ok (.astore_n 1, 1) := by decide +kernel
theorem dX9_dropOldest_7 : decode cX9_dropOldest 7 = .ok (.iconst 1, 1) := by decide +kernel
theorem dX9_dropOldest_8 : decode cX9_dropOldest 8 = .ok (.istore_n 2, 1) := by decide +kernel
theorem dX9_dropOldest_9 : decode cX9_dropOldest 9 = .ok (.iload_n 2, 1) := by decide +kernel
theorem dX9_dropOldest_10 : decode cX9_dropOldest 10 = .ok (.iconst 4, 1) := by decide +kernel
theorem dX9_dropOldest_11 : decode cX9_dropOldest 11 = .ok (.if_icmp .ge 23, 3) := by decide +kernel
theorem dX9_dropOldest_14 : decode cX9_dropOldest 14 = .ok (.aload_n 0, 1) := by decide +kernel
theorem dX9_dropOldest_15 : decode cX9_dropOldest 15 = .ok (.getfield 19, 3) := by decide +kernel
theorem dX9_dropOldest_18 : decode cX9_dropOldest 18 = .ok (.iload_n 2, 1) := by decide +kernel
theorem dX9_dropOldest_19 : decode cX9_dropOldest 19 = .ok (.iconst 1, 1) := by decide +kernel
theorem dX9_dropOldest_20 : decode cX9_dropOldest 20 = .ok (.isub, 1) := by decide +kernel
theorem dX9_dropOldest_21 : decode cX9_dropOldest 21 = .ok (.aload_n 0, 1) := by decide +kernel
theorem dX9_dropOldest_22 : decode cX9_dropOldest 22 = .ok (.getfield 19, 3) := by decide +kernel
theorem dX9_dropOldest_25 : decode cX9_dropOldest 25 = .ok (.iload_n 2, 1) := by decide +kernel
theorem dX9_dropOldest_26 : decode cX9_dropOldest 26 = .ok (.aaload, 1) := by decide +kernel
theorem dX9_dropOldest_27 : decode cX9_dropOldest 27 = .ok (.aastore, 1) := by decide +kernel
theorem dX9_dropOldest_28 : decode cX9_dropOldest 28 = .ok (.iinc 2 1, 3) := by decide +kernel
theorem dX9_dropOldest_31 : decode cX9_dropOldest 31 = .ok (.goto (-22), 3) := by decide +kernel
theorem dX9_dropOldest_34 : decode cX9_dropOldest 34 = .ok (.aload_n 0, 1) := by decide +kernel
theorem dX9_dropOldest_35 : decode cX9_dropOldest 35 = .ok (.getfield 19, 3) := by decide +kernel
theorem dX9_dropOldest_38 : decode cX9_dropOldest 38 = .ok (.iconst 3, 1) := by decide +kernel
theorem dX9_dropOldest_39 : decode cX9_dropOldest 39 = .ok (.aload_n 1, 1) := by decide +kernel
theorem dX9_dropOldest_40 : decode cX9_dropOldest 40 = .ok (.aastore, 1) := by decide +kernel
theorem dX9_dropOldest_41 : decode cX9_dropOldest 41 = .ok (.aload_n 0, 1) := by decide +kernel
theorem dX9_dropOldest_42 : decode cX9_dropOldest 42 = .ok (.iconst 3, 1) := by decide +kernel
theorem dX9_dropOldest_43 : decode cX9_dropOldest 43 = .ok (.putfield 260, 3) := by decide +kernel
theorem dX9_dropOldest_46 : decode cX9_dropOldest 46 = .ok (.return_, 1) := by decide +kernel
def kX9_dropOldest : Nat → WOp := cN 20 (cN 8 (cN 4 (cN 0 (cL 0 (o_aload 1 0)) (cN 1 (cL 1 (o_getf 4 7 2)) (cL 4 (o_push 5 0)))) (cN 6 (cN 5 (cL 5 (o_aald 6 3)) (cL 6 (o_astore 7 1))) (cN 7 (cL 7 (o_push 8 1)) (cL 8 (o_istore 9 2))))) (cN 14 (cN 10 (cN 9 (cL 9 (o_iload 10 2)) (cL 10 (o_push 11 4))) (cN 11 (cL 11 (o_icmp_ge 34 14)) (cL 14 (o_aload 15 0)))) (cN 18 (cN 15 (cL 15 (o_getf 18 7 2)) (cL 18 (o_iload 19 2))) (cN 19 (cL 19 (o_push 20 1)) (cL 20 (o_isub 21)))))) (cN 34 (cN 26 (cN 22 (cN 21 (cL 21 (o_aload 22 0)) (cL 22 (o_getf 25 7 2))) (cN 25 (cL 25 (o_iload 26 2)) (cL 26 (o_aald 27 3)))) (cN 28 (cN 27 (cL 27 (o_aast 28)) (cL 28 (o_iinc 31 2 1))) (cN 31 (cL 31 (o_goto 9)) (cL 34 (o_aload 35 0))))) (cN 40 (cN 38 (cN 35 (cL 35 (o_getf 38 7 2)) (cL 38 (o_push 39 3))) (cN 39 (cL 39 (o_aload 40 1)) (cL 40 (o_aast 41)))) (cN 42 (cN 41 (cL 41 (o_aload 42 0)) (cL 42 (o_push 43 3))) (cN 43 (cL 43 (o_puti 46 7 3)) (cL 46 (o_vret))))))
theorem sX9_dropOldest : ∀ pc, Snd tX9_dropOldest G1 pc (kX9_dropOldest pc) := s_N (s_N (s_N (s_N (s_L (s_aload_n dX9_dropOldest_0 rfl)) (s_N (s_L (s_getf ok_7 (k := 2) (by decide) dX9_dropOldest_1 qw_321)) (s_L (s_iconst dX9_dropOldest_4 (by decide +kernel))))) (s_N (s_N (s_L (s_aald (by decide) dX9_dropOldest_5)) (s_L (s_astore_n dX9_dropOldest_6 rfl (by decide)))) (s_N (s_L (s_iconst dX9_dropOldest_7 (by decide +kernel))) (s_L (s_istore_n dX9_dropOldest_8 rfl (by decide)))))) (s_N (s_N (s_N (s_L (s_iload_n dX9_dropOldest_9 rfl)) (s_L (s_iconst dX9_dropOldest_10 (by decide +kernel)))) (s_N (s_L (s_o_icmp_ge dX9_dropOldest_11 (by decide))) (s_L (s_aload_n dX9_dropOldest_14 rfl)))) (s_N (s_N (s_L (s_getf ok_7 (k := 2) (by decide) dX9_dropOldest_15 qw_321)) (s_L (s_iload_n dX9_dropOldest_18 rfl))) (s_N (s_L (s_iconst dX9_dropOldest_19 (by decide +kernel))) (s_L (s_o_isub dX9_dropOldest_20)))))) (s_N (s_N (s_N (s_N (s_L (s_aload_n dX9_dropOldest_21 rfl)) (s_L (s_getf ok_7 (k := 2) (by decide) dX9_dropOldest_22 qw_321))) (s_N (s_L (s_iload_n dX9_dropOldest_25 rfl)) (s_L (s_aald (by decide) dX9_dropOldest_26)))) (s_N (s_N (s_L (s_aast ok_5 dX9_dropOldest_27)) (s_L (s_iinc (v := 1) dX9_dropOldest_28 (by decide +kernel) (by decide)))) (s_N (s_L (s_o_goto dX9_dropOldest_31 (by decide))) (s_L (s_aload_n dX9_dropOldest_34 rfl))))) (s_N (s_N (s_N (s_L (s_getf ok_7 (k := 2) (by decide) dX9_dropOldest_35 qw_321)) (s_L (s_iconst dX9_dropOldest_38 (by decide +kernel)))) (s_N (s_L (s_aload_n dX9_dropOldest_39 rfl)) (s_L (s_aast ok_5 dX9_dropOldest_40)))) (s_N (s_N (s_L (s_aload_n dX9_dropOldest_41 rfl)) (s_L (s_iconst dX9_dropOldest_42 (by decide +kernel)))) (s_N (s_L (s_puti ok_7 (k := 3) (by decide) rfl (Or.inl rfl) dX9_dropOldest_43 qw_322)) (s_L (s_vret rfl dX9_dropOldest_46))))))
/-! PlateArm.carryOut -/
theorem dX9_carryOut_0 : decode cX9_carryOut 0 = .ok (.getstatic 317, 3) := by decide +kernel
theorem dX9_carryOut_3 : decode cX9_carryOut 3 = .ok (.aload_n 1, 1) := by decide +kernel
theorem dX9_carryOut_4 : decode cX9_carryOut 4 = .ok (.invokevirtual 322, 3) := by decide +kernel
theorem dX9_carryOut_7 : decode cX9_carryOut 7 = .ok (.iaload, 1) := by decide +kernel
theorem dX9_carryOut_8 : decode cX9_carryOut 8 = .ok (.tableswitch 88 1 5 #[36, 47, 61, 69, 80], 36) := by decide +kernel
theorem dX9_carryOut_44 : decode cX9_carryOut 44 = .ok (.aload_n 0, 1) := by decide +kernel
theorem dX9_carryOut_45 : decode cX9_carryOut 45 = .ok (.aload_n 2, 1) := by decide +kernel
theorem dX9_carryOut_46 : decode cX9_carryOut 46 = .ok (.iconst 0, 1) := by decide +kernel
theorem dX9_carryOut_47 : decode cX9_carryOut 47 = .ok (.iaload, 1) := by decide +kernel
theorem dX9_carryOut_48 : decode cX9_carryOut 48 = .ok (.aload_n 2, 1) := by decide +kernel
theorem dX9_carryOut_49 : decode cX9_carryOut 49 = .ok (.iconst 1, 1) := by decide +kernel
theorem dX9_carryOut_50 : decode cX9_carryOut 50 = .ok (.iaload, 1) := by decide +kernel
theorem dX9_carryOut_51 : decode cX9_carryOut 51 = .ok (.invokevirtual 327, 3) := by decide +kernel
theorem dX9_carryOut_54 : decode cX9_carryOut 54 = .ok (.ireturn, 1) := by decide +kernel
theorem dX9_carryOut_55 : decode cX9_carryOut 55 = .ok (.aload_n 0, 1) := by decide +kernel
theorem dX9_carryOut_56 : decode cX9_carryOut 56 = .ok (.aload_n 2, 1) := by decide +kernel
theorem dX9_carryOut_57 : decode cX9_carryOut 57 = .ok (.iconst 0, 1) := by decide +kernel
theorem dX9_carryOut_58 : decode cX9_carryOut 58 = .ok (.iaload, 1) := by decide +kernel
theorem dX9_carryOut_59 : decode cX9_carryOut 59 = .ok (.aload_n 2, 1) := by decide +kernel
theorem dX9_carryOut_60 : decode cX9_carryOut 60 = .ok (.iconst 1, 1) := by decide +kernel
theorem dX9_carryOut_61 : decode cX9_carryOut 61 = .ok (.iaload, 1) := by decide +kernel
theorem dX9_carryOut_62 : decode cX9_carryOut 62 = .ok (.aload_n 2, 1) := by decide +kernel
theorem dX9_carryOut_63 : decode cX9_carryOut 63 = .ok (.iconst 2, 1) := by decide +kernel
theorem dX9_carryOut_64 : decode cX9_carryOut 64 = .ok (.iaload, 1) := by decide +kernel
theorem dX9_carryOut_65 : decode cX9_carryOut 65 = .ok (.invokevirtual 330, 3) := by decide +kernel
theorem dX9_carryOut_68 : decode cX9_carryOut 68 = .ok (.ireturn, 1) := by decide +kernel
theorem dX9_carryOut_69 : decode cX9_carryOut 69 = .ok (.aload_n 0, 1) := by decide +kernel
theorem dX9_carryOut_70 : decode cX9_carryOut 70 = .ok (.aload_n 2, 1) := by decide +kernel
theorem dX9_carryOut_71 : decode cX9_carryOut 71 = .ok (.iconst 0, 1) := by decide +kernel
theorem dX9_carryOut_72 : decode cX9_carryOut 72 = .ok (.iaload, 1) := by decide +kernel
theorem dX9_carryOut_73 : decode cX9_carryOut 73 = .ok (.invokevirtual 333, 3) := by decide +kernel
theorem dX9_carryOut_76 : decode cX9_carryOut 76 = .ok (.ireturn, 1) := by decide +kernel
theorem dX9_carryOut_77 : decode cX9_carryOut 77 = .ok (.aload_n 0, 1) := by decide +kernel
theorem dX9_carryOut_78 : decode cX9_carryOut 78 = .ok (.aload_n 2, 1) := by decide +kernel
theorem dX9_carryOut_79 : decode cX9_carryOut 79 = .ok (.iconst 0, 1) := by decide +kernel
theorem dX9_carryOut_80 : decode cX9_carryOut 80 = .ok (.iaload, 1) := by decide +kernel
theorem dX9_carryOut_81 : decode cX9_carryOut 81 = .ok (.aload_n 2, 1) := by decide +kernel
theorem dX9_carryOut_82 : decode cX9_carryOut 82 = .ok (.iconst 1, 1) := by decide +kernel
theorem dX9_carryOut_83 : decode cX9_carryOut 83 = .ok (.iaload, 1) := by decide +kernel
theorem dX9_carryOut_84 : decode cX9_carryOut 84 = .ok (.invokevirtual 336, 3) := by decide +kernel
theorem dX9_carryOut_87 : decode cX9_carryOut 87 = .ok (.ireturn, 1) := by decide +kernel
theorem dX9_carryOut_88 : decode cX9_carryOut 88 = .ok (.aload_n 0, 1) := by decide +kernel
theorem dX9_carryOut_89 : decode cX9_carryOut 89 = .ok (.aload_n 2, 1) := by decide +kernel
theorem dX9_carryOut_90 : decode cX9_carryOut 90 = .ok (.iconst 0, 1) := by decide +kernel
theorem dX9_carryOut_91 : decode cX9_carryOut 91 = .ok (.iaload, 1) := by decide +kernel
theorem dX9_carryOut_92 : decode cX9_carryOut 92 = .ok (.invokevirtual 339, 3) := by decide +kernel
theorem dX9_carryOut_95 : decode cX9_carryOut 95 = .ok (.ireturn, 1) := by decide +kernel
theorem dX9_carryOut_96 : decode cX9_carryOut 96 = .ok (.iconst 0, 1) := by decide +kernel
theorem dX9_carryOut_97 : decode cX9_carryOut 97 = .ok (.ireturn, 1) := by decide +kernel
theorem cc_X9_carryOut_Jx29ce0_ordinal_8abf5 : CallC tX9_carryOut tJx29ce0_ordinal_8abf5 0 := ⟨by decide +kernel, by decide +kernel, by decide +kernel, by decide, by decide, qw_78, qw_596⟩
theorem cc_X9_carryOut_X9_carryOutPlate : CallC tX9_carryOut tX9_carryOutPlate 2 := ⟨by decide +kernel, by decide +kernel, by decide +kernel, by decide, by decide, qw_70, qw_600⟩
theorem cc_X9_carryOut_X9_carryOutRead : CallC tX9_carryOut tX9_carryOutRead 3 := ⟨by decide +kernel, by decide +kernel, by decide +kernel, by decide, by decide, qw_70, qw_627⟩
theorem cc_X9_carryOut_X9_carryOutCancel : CallC tX9_carryOut tX9_carryOutCancel 1 := ⟨by decide +kernel, by decide +kernel, by decide +kernel, by decide, by decide, qw_70, qw_644⟩
theorem cc_X9_carryOut_X9_carryOutSet : CallC tX9_carryOut tX9_carryOutSet 2 := ⟨by decide +kernel, by decide +kernel, by decide +kernel, by decide, by decide, qw_70, qw_657⟩
theorem cc_X9_carryOut_X9_carryOutTicks : CallC tX9_carryOut tX9_carryOutTicks 1 := ⟨by decide +kernel, by decide +kernel, by decide +kernel, by decide, by decide, qw_70, qw_668⟩
def kX9_carryOut : Nat → WOp := cN 64 (cN 50 (cN 44 (cN 4 (cN 0 (cL 0 (o_gets 3 (.float 20))) (cN 3 (cL 3 (o_aload 4 1)) (cL 4 (o_callXU 7 tJx29ce0_ordinal_8abf5)))) (cN 7 (cL 7 (o_xald 8 20 [0, 1, 2, 3, 4, 5])) (cN 8 (cL 8 (o_tsw 1 [44, 55, 69, 77, 88] 96)) (cL 44 (o_aload 45 0))))) (cN 47 (cN 45 (cL 45 (o_aload 46 2)) (cN 46 (cL 46 (o_push 47 0)) (cL 47 (o_iald 48)))) (cN 48 (cL 48 (o_aload 49 2)) (cN 49 (cL 49 (o_push 50 1)) (cL 50 (o_iald 51)))))) (cN 58 (cN 55 (cN 51 (cL 51 (o_callV 54 7 2 tX9_carryOutPlate 0 0)) (cN 54 (cL 54 (o_zret)) (cL 55 (o_aload 56 0)))) (cN 56 (cL 56 (o_aload 57 2)) (cN 57 (cL 57 (o_push 58 0)) (cL 58 (o_iald 59))))) (cN 61 (cN 59 (cL 59 (o_aload 60 2)) (cN 60 (cL 60 (o_push 61 1)) (cL 61 (o_iald 62)))) (cN 62 (cL 62 (o_aload 63 2)) (cN 63 (cL 63 (o_push 64 2)) (cL 64 (o_iald 65))))))) (cN 80 (cN 72 (cN 69 (cN 65 (cL 65 (o_callV 68 7 3 tX9_carryOutRead 0 0)) (cN 68 (cL 68 (o_zret)) (cL 69 (o_aload 70 0)))) (cN 70 (cL 70 (o_aload 71 2)) (cN 71 (cL 71 (o_push 72 0)) (cL 72 (o_iald 73))))) (cN 77 (cN 73 (cL 73 (o_callV 76 7 1 tX9_carryOutCancel 0 0)) (cN 76 (cL 76 (o_zret)) (cL 77 (o_aload 78 0)))) (cN 78 (cL 78 (o_aload 79 2)) (cN 79 (cL 79 (o_push 80 0)) (cL 80 (o_iald 81)))))) (cN 88 (cN 83 (cN 81 (cL 81 (o_aload 82 2)) (cN 82 (cL 82 (o_push 83 1)) (cL 83 (o_iald 84)))) (cN 84 (cL 84 (o_callV 87 7 2 tX9_carryOutSet 0 0)) (cN 87 (cL 87 (o_zret)) (cL 88 (o_aload 89 0))))) (cN 91 (cN 89 (cL 89 (o_aload 90 2)) (cN 90 (cL 90 (o_push 91 0)) (cL 91 (o_iald 92)))) (cN 95 (cN 92 (cL 92 (o_callV 95 7 1 tX9_carryOutTicks 0 0)) (cL 95 (o_zret))) (cN 96 (cL 96 (o_push 97 0)) (cL 97 (o_zret)))))))
theorem sX9_carryOut : ∀ pc, Snd tX9_carryOut G1 pc (kX9_carryOut pc) := s_N (s_N (s_N (s_N (s_N (s_L (s_gets (C := "PlateArm$1") (nm := "$SwitchMap$PlateArm$Word") (dsc := "[I") (by simp [EZ]) dX9_carryOut_0 qw_589)) (s_N (s_L (s_aload_n dX9_carryOut_3 rfl)) (s_L (s_callXU (x := ⟨"PlateArm$Word", "ordinal", "()I"⟩) (by intro k hk; rcases (show k = 0 ∨ k = 1 ∨ k = 2 ∨ k = 3 ∨ k = 4 ∨ k = 5 by omega) with rfl | rfl | rfl | rfl | rfl | rfl <;> simp [EO]) cc_X9_carryOut_Jx29ce0_ordinal_8abf5 rfl rfl qw_591 qw_592 qw_594 qw_595 dX9_carryOut_4)))) (s_N (s_L (s_xald (k := 20) (l := [0, 1, 2, 3, 4, 5]) (by simp [ET]) dX9_carryOut_7)) (s_N (s_L (s_tsw dX9_carryOut_8 (by decide +kernel) (by decide) (by decide) (by decide) (by intro k t h; match k, h with | 0, h => exact ⟨36, rfl, by cases h; decide⟩ | 1, h => exact ⟨47, rfl, by cases h; decide⟩ | 2, h => exact ⟨61, rfl, by cases h; decide⟩ | 3, h => exact ⟨69, rfl, by cases h; decide⟩ | 4, h => exact ⟨80, rfl, by cases h; decide⟩ | k + 5, h => simp at h) (by decide))) (s_L (s_aload_n dX9_carryOut_44 rfl))))) (s_N (s_N (s_L (s_aload_n dX9_carryOut_45 rfl)) (s_N (s_L (s_iconst dX9_carryOut_46 (by decide +kernel))) (s_L (s_iald dX9_carryOut_47)))) (s_N (s_L (s_aload_n dX9_carryOut_48 rfl)) (s_N (s_L (s_iconst dX9_carryOut_49 (by decide +kernel))) (s_L (s_iald dX9_carryOut_50)))))) (s_N (s_N (s_N (s_L (s_callV (d' := tX9_carryOutPlate) (mc := 0) (ms := 0) ok_7 cc_X9_carryOut_X9_carryOutPlate qw_597 qw_599 qw_19 dX9_carryOut_51)) (s_N (s_L (s_zret rfl dX9_carryOut_54)) (s_L (s_aload_n dX9_carryOut_55 rfl)))) (s_N (s_L (s_aload_n dX9_carryOut_56 rfl)) (s_N (s_L (s_iconst dX9_carryOut_57 (by decide +kernel))) (s_L (s_iald dX9_carryOut_58))))) (s_N (s_N (s_L (s_aload_n dX9_carryOut_59 rfl)) (s_N (s_L (s_iconst dX9_carryOut_60 (by decide +kernel))) (s_L (s_iald dX9_carryOut_61)))) (s_N (s_L (s_aload_n dX9_carryOut_62 rfl)) (s_N (s_L (s_iconst dX9_carryOut_63 (by decide +kernel))) (s_L (s_iald dX9_carryOut_64))))))) (s_N (s_N (s_N (s_N (s_L (s_callV (d' := tX9_carryOutRead) (mc := 0) (ms := 0) ok_7 cc_X9_carryOut_X9_carryOutRead qw_624 qw_626 qw_20 dX9_carryOut_65)) (s_N (s_L (s_zret rfl dX9_carryOut_68)) (s_L (s_aload_n dX9_carryOut_69 rfl)))) (s_N (s_L (s_aload_n dX9_carryOut_70 rfl)) (s_N (s_L (s_iconst dX9_carryOut_71 (by decide +kernel))) (s_L (s_iald dX9_carryOut_72))))) (s_N (s_N (s_L (s_callV (d' := tX9_carryOutCancel) (mc := 0) (ms := 0) ok_7 cc_X9_carryOut_X9_carryOutCancel qw_641 qw_643 qw_22 dX9_carryOut_73)) (s_N (s_L (s_zret rfl dX9_carryOut_76)) (s_L (s_aload_n dX9_carryOut_77 rfl)))) (s_N (s_L (s_aload_n dX9_carryOut_78 rfl)) (s_N (s_L (s_iconst dX9_carryOut_79 (by decide +kernel))) (s_L (s_iald dX9_carryOut_80)))))) (s_N (s_N (s_N (s_L (s_aload_n dX9_carryOut_81 rfl)) (s_N (s_L (s_iconst dX9_carryOut_82 (by decide +kernel))) (s_L (s_iald dX9_carryOut_83)))) (s_N (s_L (s_callV (d' := tX9_carryOutSet) (mc := 0) (ms := 0) ok_7 cc_X9_carryOut_X9_carryOutSet qw_654 qw_656 qw_23 dX9_carryOut_84)) (s_N (s_L (s_zret rfl dX9_carryOut_87)) (s_L (s_aload_n dX9_carryOut_88 rfl))))) (s_N (s_N (s_L (s_aload_n dX9_carryOut_89 rfl)) (s_N (s_L (s_iconst dX9_carryOut_90 (by decide +kernel))) (s_L (s_iald dX9_carryOut_91)))) (s_N (s_N (s_L (s_callV (d' := tX9_carryOutTicks) (mc := 0) (ms := 0) ok_7 cc_X9_carryOut_X9_carryOutTicks qw_665 qw_667 qw_24 dX9_carryOut_92)) (s_L (s_zret rfl dX9_carryOut_95))) (s_N (s_L (s_iconst dX9_carryOut_96 (by decide +kernel))) (s_L (s_zret rfl dX9_carryOut_97)))))))
/-! PlateArm.carryOutPlate -/
theorem dX9_carryOutPlate_0 : decode cX9_carryOutPlate 0 = .ok (.iload_n 1, 1) := by decide +kernel
theorem dX9_carryOutPlate_1 : decode cX9_carryOutPlate 1 = .ok (.iload_n 2, 1) := by decide +kernel
theorem dX9_carryOutPlate_2 : decode cX9_carryOutPlate 2 = .ok (.invokestatic 42, 3) := by decide +kernel
theorem dX9_carryOutPlate_5 : decode cX9_carryOutPlate 5 = .ok (.ifCond .ne 5, 3) := by decide +kernel
theorem dX9_carryOutPlate_8 : decode cX9_carryOutPlate 8 = .ok (.iconst 0, 1) := by decide +kernel
theorem dX9_carryOutPlate_9 : decode cX9_carryOutPlate 9 = .ok (.ireturn, 1) := by decide +kernel
theorem dX9_carryOutPlate_10 : decode cX9_carryOutPlate 10 = .ok (.aload_n 0, 1) := by decide +kernel
theorem dX9_carryOutPlate_11 : decode cX9_carryOutPlate 11 = .ok (.getfield 10, 3) := by decide +kernel
theorem dX9_carryOutPlate_14 : decode cX9_carryOutPlate 14 = .ok (.iload_n 1, 1) := by decide +kernel
theorem dX9_carryOutPlate_15 : decode cX9_carryOutPlate 15 = .ok (.iload_n 2, 1) := by decide +kernel
theorem dX9_carryOutPlate_16 : decode cX9_carryOutPlate 16 = .ok (.invokevirtual 62, 3) := by decide +kernel
theorem dX9_carryOutPlate_19 : decode cX9_carryOutPlate 19 = .ok (.iconst 1, 1) := by decide +kernel
theorem dX9_carryOutPlate_20 : decode cX9_carryOutPlate 20 = .ok (.ireturn, 1) := by decide +kernel
theorem cc_X9_carryOutPlate_X9_plateFits : CallC tX9_carryOutPlate tX9_plateFits 2 := ⟨by decide +kernel, by decide +kernel, by decide +kernel, by decide, by decide, qw_70, qw_603⟩
theorem cc_X9_carryOutPlate_X6_putIn : CallC tX9_carryOutPlate tX6_putIn 2 := ⟨by decide +kernel, by decide +kernel, by decide +kernel, by decide, by decide, qw_71, qw_607⟩
def kX9_carryOutPlate : Nat → WOp := cN 9 (cN 2 (cN 0 (cL 0 (o_iload 1 1)) (cN 1 (cL 1 (o_iload 2 2)) (cL 2 (o_callS 5 2 tX9_plateFits 0 0)))) (cN 5 (cL 5 (o_if_ne 10 8)) (cN 8 (cL 8 (o_push 9 0)) (cL 9 (o_zret))))) (cN 14 (cN 10 (cL 10 (o_aload 11 0)) (cN 11 (cL 11 (o_getf 14 7 0)) (cL 14 (o_iload 15 1)))) (cN 16 (cN 15 (cL 15 (o_iload 16 2)) (cL 16 (o_callV 19 5 2 tX6_putIn 0 0))) (cN 19 (cL 19 (o_push 20 1)) (cL 20 (o_zret)))))
theorem sX9_carryOutPlate : ∀ pc, Snd tX9_carryOutPlate G1 pc (kX9_carryOutPlate pc) := s_N (s_N (s_N (s_L (s_iload_n dX9_carryOutPlate_0 rfl)) (s_N (s_L (s_iload_n dX9_carryOutPlate_1 rfl)) (s_L (s_callS (d' := tX9_plateFits) (mc := 0) (ms := 0) cc_X9_carryOutPlate_X9_plateFits qw_601 qw_602 dX9_carryOutPlate_2)))) (s_N (s_L (s_o_if_ne dX9_carryOutPlate_5 (by decide))) (s_N (s_L (s_iconst dX9_carryOutPlate_8 (by decide +kernel))) (s_L (s_zret rfl dX9_carryOutPlate_9))))) (s_N (s_N (s_L (s_aload_n dX9_carryOutPlate_10 rfl)) (s_N (s_L (s_getf ok_7 (k := 0) (by decide) dX9_carryOutPlate_11 qw_319)) (s_L (s_iload_n dX9_carryOutPlate_14 rfl)))) (s_N (s_N (s_L (s_iload_n dX9_carryOutPlate_15 rfl)) (s_L (s_callV (d' := tX6_putIn) (mc := 0) (ms := 0) ok_5 cc_X9_carryOutPlate_X6_putIn qw_604 qw_605 qw_606 dX9_carryOutPlate_16))) (s_N (s_L (s_iconst dX9_carryOutPlate_19 (by decide +kernel))) (s_L (s_zret rfl dX9_carryOutPlate_20)))))
/-! PlateArm.carryOutRead -/
theorem dX9_carryOutRead_0 : decode cX9_carryOutRead 0 = .ok (.aload_n 0, 1) := by decide +kernel
theorem dX9_carryOutRead_1 : decode cX9_carryOutRead 1 = .ok (.iload_n 1, 1) := by decide +kernel
theorem dX9_carryOutRead_2 : decode cX9_carryOutRead 2 = .ok (.iload_n 2, 1) := by decide +kernel
theorem dX9_carryOutRead_3 : decode cX9_carryOutRead 3 = .ok (.iload_n 3, 1) := by decide +kernel
theorem dX9_carryOutRead_4 : decode cX9_carryOutRead 4 = .ok (.invokevirtual 66, 3) := by decide +kernel
theorem dX9_carryOutRead_7 : decode cX9_carryOutRead 7 = .ok (.ifCond .eq 16, 3) := by decide +kernel
theorem dX9_carryOutRead_10 : decode cX9_carryOutRead 10 = .ok (.aload_n 0, 1) := by decide +kernel
theorem dX9_carryOutRead_11 : decode cX9_carryOutRead 11 = .ok (.getfield 10, 3) := by decide +kernel
theorem dX9_carryOutRead_14 : decode cX9_carryOutRead 14 = .ok (.getfield 52, 3) := by decide +kernel
theorem dX9_carryOutRead_17 : decode cX9_carryOutRead 17 = .ok (.invokevirtual 70, 3) := by decide +kernel
theorem dX9_carryOutRead_20 : decode cX9_carryOutRead 20 = .ok (.ifCond .eq 5, 3) := by decide +kernel
theorem dX9_carryOutRead_23 : decode cX9_carryOutRead 23 = .ok (.iconst 0, 1) := by decide +kernel
theorem dX9_carryOutRead_24 : decode cX9_carryOutRead 24 = .ok (.ireturn, 1) := by decide +kernel
theorem dX9_carryOutRead_25 : decode cX9_carryOutRead 25 = .ok (.aload_n 0, 1) := by decide +kernel
theorem dX9_carryOutRead_26 : decode cX9_carryOutRead 26 = .ok (.getfield 10, 3) := by decide +kernel
theorem dX9_carryOutRead_29 : decode cX9_carryOutRead 29 = .ok (.getfield 52, 3) := by decide +kernel
theorem dX9_carryOutRead_32 : decode cX9_carryOutRead 32 = .ok (.iload_n 1, 1) := by decide +kernel
theorem dX9_carryOutRead_33 : decode cX9_carryOutRead 33 = .ok (.iload_n 2, 1) := by decide +kernel
theorem dX9_carryOutRead_34 : decode cX9_carryOutRead 34 = .ok (.iload_n 3, 1) := by decide +kernel
theorem dX9_carryOutRead_35 : decode cX9_carryOutRead 35 = .ok (.aload_n 0, 1) := by decide +kernel
theorem dX9_carryOutRead_36 : decode cX9_carryOutRead 36 = .ok (.getfield 10, 3) := by decide +kernel
theorem dX9_carryOutRead_39 : decode cX9_carryOutRead 39 = .ok (.getfield 77, 3) := by decide +kernel
theorem dX9_carryOutRead_42 : decode cX9_carryOutRead 42 = .ok (.invokevirtual 80, 3) := by decide +kernel
theorem dX9_carryOutRead_45 : decode cX9_carryOutRead 45 = .ok (.pop, 1) := by decide +kernel
theorem dX9_carryOutRead_46 : decode cX9_carryOutRead 46 = .ok (.iconst 1, 1) := by decide +kernel
theorem dX9_carryOutRead_47 : decode cX9_carryOutRead 47 = .ok (.ireturn, 1) := by decide +kernel
theorem cc_X9_carryOutRead_X9_requestFits : CallC tX9_carryOutRead tX9_requestFits 3 := ⟨by decide +kernel, by decide +kernel, by decide +kernel, by decide, by decide, qw_70, qw_631⟩
theorem cc_X9_carryOutRead_X5_isFull : CallC tX9_carryOutRead tX5_isFull 0 := ⟨by decide +kernel, by decide +kernel, by decide +kernel, by decide, by decide, qw_73, qw_635⟩
theorem cc_X9_carryOutRead_X5_add : CallC tX9_carryOutRead tX5_add 4 := ⟨by decide +kernel, by decide +kernel, by decide +kernel, by decide, by decide, qw_73, qw_639⟩
def kX9_carryOutRead : Nat → WOp := cN 24 (cN 7 (cN 2 (cN 0 (cL 0 (o_aload 1 0)) (cN 1 (cL 1 (o_iload 2 1)) (cL 2 (o_iload 3 2)))) (cN 3 (cL 3 (o_iload 4 3)) (cN 4 (cL 4 (o_callV 7 7 3 tX9_requestFits 0 0)) (cL 7 (o_if_eq 23 10))))) (cN 14 (cN 10 (cL 10 (o_aload 11 0)) (cN 11 (cL 11 (o_getf 14 7 0)) (cL 14 (o_getf 17 5 5)))) (cN 20 (cN 17 (cL 17 (o_callV 20 4 0 tX5_isFull 0 0)) (cL 20 (o_if_eq 25 23))) (cN 23 (cL 23 (o_push 24 0)) (cL 24 (o_zret)))))) (cN 34 (cN 29 (cN 25 (cL 25 (o_aload 26 0)) (cN 26 (cL 26 (o_getf 29 7 0)) (cL 29 (o_getf 32 5 5)))) (cN 32 (cL 32 (o_iload 33 1)) (cN 33 (cL 33 (o_iload 34 2)) (cL 34 (o_iload 35 3))))) (cN 39 (cN 35 (cL 35 (o_aload 36 0)) (cN 36 (cL 36 (o_getf 39 7 0)) (cL 39 (o_getf 42 5 2)))) (cN 45 (cN 42 (cL 42 (o_callV 45 4 4 tX5_add 0 0)) (cL 45 (o_pop 46))) (cN 46 (cL 46 (o_push 47 1)) (cL 47 (o_zret))))))
theorem sX9_carryOutRead : ∀ pc, Snd tX9_carryOutRead G1 pc (kX9_carryOutRead pc) := s_N (s_N (s_N (s_N (s_L (s_aload_n dX9_carryOutRead_0 rfl)) (s_N (s_L (s_iload_n dX9_carryOutRead_1 rfl)) (s_L (s_iload_n dX9_carryOutRead_2 rfl)))) (s_N (s_L (s_iload_n dX9_carryOutRead_3 rfl)) (s_N (s_L (s_callV (d' := tX9_requestFits) (mc := 0) (ms := 0) ok_7 cc_X9_carryOutRead_X9_requestFits qw_628 qw_630 qw_21 dX9_carryOutRead_4)) (s_L (s_o_if_eq dX9_carryOutRead_7 (by decide)))))) (s_N (s_N (s_L (s_aload_n dX9_carryOutRead_10 rfl)) (s_N (s_L (s_getf ok_7 (k := 0) (by decide) dX9_carryOutRead_11 qw_319)) (s_L (s_getf ok_5 (k := 5) (by decide) dX9_carryOutRead_14 qw_249)))) (s_N (s_N (s_L (s_callV (d' := tX5_isFull) (mc := 0) (ms := 0) ok_4 cc_X9_carryOutRead_X5_isFull qw_632 qw_633 qw_634 dX9_carryOutRead_17)) (s_L (s_o_if_eq dX9_carryOutRead_20 (by decide)))) (s_N (s_L (s_iconst dX9_carryOutRead_23 (by decide +kernel))) (s_L (s_zret rfl dX9_carryOutRead_24)))))) (s_N (s_N (s_N (s_L (s_aload_n dX9_carryOutRead_25 rfl)) (s_N (s_L (s_getf ok_7 (k := 0) (by decide) dX9_carryOutRead_26 qw_319)) (s_L (s_getf ok_5 (k := 5) (by decide) dX9_carryOutRead_29 qw_249)))) (s_N (s_L (s_iload_n dX9_carryOutRead_32 rfl)) (s_N (s_L (s_iload_n dX9_carryOutRead_33 rfl)) (s_L (s_iload_n dX9_carryOutRead_34 rfl))))) (s_N (s_N (s_L (s_aload_n dX9_carryOutRead_35 rfl)) (s_N (s_L (s_getf ok_7 (k := 0) (by decide) dX9_carryOutRead_36 qw_319)) (s_L (s_getf ok_5 (k := 2) (by decide) dX9_carryOutRead_39 qw_243)))) (s_N (s_N (s_L (s_callV (d' := tX5_add) (mc := 0) (ms := 0) ok_4 cc_X9_carryOutRead_X5_add qw_636 qw_637 qw_638 dX9_carryOutRead_42)) (s_L (s_o_pop dX9_carryOutRead_45))) (s_N (s_L (s_iconst dX9_carryOutRead_46 (by decide +kernel))) (s_L (s_zret rfl dX9_carryOutRead_47))))))
/-! PlateArm.carryOutCancel -/
theorem dX9_carryOutCancel_0 : decode cX9_carryOutCancel 0 = .ok (.aload_n 0, 1) := by decide +kernel
theorem dX9_carryOutCancel_1 : decode cX9_carryOutCancel 1 = .ok (.getfield 10, 3) := by decide +kernel
theorem dX9_carryOutCancel_4 : decode cX9_carryOutCancel 4 = .ok (.getfield 52, 3) := by decide +kernel
theorem dX9_carryOutCancel_7 : decode cX9_carryOutCancel 7 = .ok (.iload_n 1, 1) := by decide +kernel
theorem dX9_carryOutCancel_8 : decode cX9_carryOutCancel 8 = .ok (.invokevirtual 84, 3) := by decide +kernel
theorem dX9_carryOutCancel_11 : decode cX9_carryOutCancel 11 = .ok (.istore_n 2, 1) := by decide +kernel
theorem dX9_carryOutCancel_12 : decode cX9_carryOutCancel 12 = .ok (.iload_n 2, 1) := by decide +kernel
theorem dX9_carryOutCancel_13 : decode cX9_carryOutCancel 13 = .ok (.iconst (-1), 1) := by decide +kernel
theorem dX9_carryOutCancel_14 : decode cX9_carryOutCancel 14 = .ok (.if_icmp .ne 5, 3) := by decide +kernel
theorem dX9_carryOutCancel_17 : decode cX9_carryOutCancel 17 = .ok (.iconst 0, 1) := by decide +kernel
theorem dX9_carryOutCancel_18 : decode cX9_carryOutCancel 18 = .ok (.ireturn, 1) := by decide +kernel
theorem dX9_carryOutCancel_19 : decode cX9_carryOutCancel 19 = .ok (.aload_n 0, 1) := by decide +kernel
theorem dX9_carryOutCancel_20 : decode cX9_carryOutCancel 20 = .ok (.getfield 10, 3) := by decide +kernel
theorem dX9_carryOutCancel_23 : decode cX9_carryOutCancel 23 = .ok (.getfield 52, 3) := by decide +kernel
theorem dX9_carryOutCancel_26 : decode cX9_carryOutCancel 26 = .ok (.iload_n 2, 1) := by decide +kernel
theorem dX9_carryOutCancel_27 : decode cX9_carryOutCancel 27 = .ok (.invokevirtual 95, 3) := by decide +kernel
theorem dX9_carryOutCancel_30 : decode cX9_carryOutCancel 30 = .ok (.iconst 1, 1) := by decide +kernel
theorem dX9_carryOutCancel_31 : decode cX9_carryOutCancel 31 = .ok (.ireturn, 1) := by decide +kernel
theorem cc_X9_carryOutCancel_X5_indexOf : CallC tX9_carryOutCancel tX5_indexOf 1 := ⟨by decide +kernel, by decide +kernel, by decide +kernel, by decide, by decide, qw_73, qw_648⟩
theorem cc_X9_carryOutCancel_X5_removeAt : CallC tX9_carryOutCancel tX5_removeAt 1 := ⟨by decide +kernel, by decide +kernel, by decide +kernel, by decide, by decide, qw_73, qw_652⟩
def kX9_carryOutCancel : Nat → WOp := cN 14 (cN 7 (cN 1 (cN 0 (cL 0 (o_aload 1 0)) (cL 1 (o_getf 4 7 0))) (cN 4 (cL 4 (o_getf 7 5 5)) (cL 7 (o_iload 8 1)))) (cN 11 (cN 8 (cL 8 (o_callV 11 4 1 tX5_indexOf 0 0)) (cL 11 (o_istore 12 2))) (cN 12 (cL 12 (o_iload 13 2)) (cN 13 (cL 13 (o_push 14 (-1))) (cL 14 (o_icmp_ne 19 17)))))) (cN 20 (cN 18 (cN 17 (cL 17 (o_push 18 0)) (cL 18 (o_zret))) (cN 19 (cL 19 (o_aload 20 0)) (cL 20 (o_getf 23 7 0)))) (cN 26 (cN 23 (cL 23 (o_getf 26 5 5)) (cL 26 (o_iload 27 2))) (cN 27 (cL 27 (o_callV 30 4 1 tX5_removeAt 0 0)) (cN 30 (cL 30 (o_push 31 1)) (cL 31 (o_zret))))))
theorem sX9_carryOutCancel : ∀ pc, Snd tX9_carryOutCancel G1 pc (kX9_carryOutCancel pc) := s_N (s_N (s_N (s_N (s_L (s_aload_n dX9_carryOutCancel_0 rfl)) (s_L (s_getf ok_7 (k := 0) (by decide) dX9_carryOutCancel_1 qw_319))) (s_N (s_L (s_getf ok_5 (k := 5) (by decide) dX9_carryOutCancel_4 qw_249)) (s_L (s_iload_n dX9_carryOutCancel_7 rfl)))) (s_N (s_N (s_L (s_callV (d' := tX5_indexOf) (mc := 0) (ms := 0) ok_4 cc_X9_carryOutCancel_X5_indexOf qw_645 qw_646 qw_647 dX9_carryOutCancel_8)) (s_L (s_istore_n dX9_carryOutCancel_11 rfl (by decide)))) (s_N (s_L (s_iload_n dX9_carryOutCancel_12 rfl)) (s_N (s_L (s_iconst dX9_carryOutCancel_13 (by decide +kernel))) (s_L (s_o_icmp_ne dX9_carryOutCancel_14 (by decide))))))) (s_N (s_N (s_N (s_L (s_iconst dX9_carryOutCancel_17 (by decide +kernel))) (s_L (s_zret rfl dX9_carryOutCancel_18))) (s_N (s_L (s_aload_n dX9_carryOutCancel_19 rfl)) (s_L (s_getf ok_7 (k := 0) (by decide) dX9_carryOutCancel_20 qw_319)))) (s_N (s_N (s_L (s_getf ok_5 (k := 5) (by decide) dX9_carryOutCancel_23 qw_249)) (s_L (s_iload_n dX9_carryOutCancel_26 rfl))) (s_N (s_L (s_callV (d' := tX5_removeAt) (mc := 0) (ms := 0) ok_4 cc_X9_carryOutCancel_X5_removeAt qw_649 qw_650 qw_651 dX9_carryOutCancel_27)) (s_N (s_L (s_iconst dX9_carryOutCancel_30 (by decide +kernel))) (s_L (s_zret rfl dX9_carryOutCancel_31))))))
/-! PlateArm.carryOutSet -/
theorem dX9_carryOutSet_0 : decode cX9_carryOutSet 0 = .ok (.iload_n 1, 1) := by decide +kernel
theorem dX9_carryOutSet_1 : decode cX9_carryOutSet 1 = .ok (.iload_n 2, 1) := by decide +kernel
theorem dX9_carryOutSet_2 : decode cX9_carryOutSet 2 = .ok (.invokestatic 99, 3) := by decide +kernel
theorem dX9_carryOutSet_5 : decode cX9_carryOutSet 5 = .ok (.ifCond .ne 5, 3) := by decide +kernel
theorem dX9_carryOutSet_8 : decode cX9_carryOutSet 8 = .ok (.iconst 0, 1) := by decide +kernel
theorem dX9_carryOutSet_9 : decode cX9_carryOutSet 9 = .ok (.ireturn, 1) := by decide +kernel
theorem dX9_carryOutSet_10 : decode cX9_carryOutSet 10 = .ok (.aload_n 0, 1) := by decide +kernel
theorem dX9_carryOutSet_11 : decode cX9_carryOutSet 11 = .ok (.getfield 10, 3) := by decide +kernel
theorem dX9_carryOutSet_14 : decode cX9_carryOutSet 14 = .ok (.getfield 102, 3) := by decide +kernel
theorem dX9_carryOutSet_17 : decode cX9_carryOutSet 17 = .ok (.iload_n 1, 1) := by decide +kernel
theorem dX9_carryOutSet_18 : decode cX9_carryOutSet 18 = .ok (.iload_n 2, 1) := by decide +kernel
theorem dX9_carryOutSet_19 : decode cX9_carryOutSet 19 = .ok (.iastore, 1) := by decide +kernel
theorem dX9_carryOutSet_20 : decode cX9_carryOutSet 20 = .ok (.iconst 1, 1) := by decide +kernel
theorem dX9_carryOutSet_21 : decode cX9_carryOutSet 21 = .ok (.ireturn, 1) := by decide +kernel
theorem cc_X9_carryOutSet_X9_settingFits : CallC tX9_carryOutSet tX9_settingFits 2 := ⟨by decide +kernel, by decide +kernel, by decide +kernel, by decide, by decide, qw_70, qw_660⟩
def kX9_carryOutSet : Nat → WOp := cN 10 (cN 2 (cN 0 (cL 0 (o_iload 1 1)) (cN 1 (cL 1 (o_iload 2 2)) (cL 2 (o_callS 5 2 tX9_settingFits 0 0)))) (cN 8 (cN 5 (cL 5 (o_if_ne 10 8)) (cL 8 (o_push 9 0))) (cN 9 (cL 9 (o_zret)) (cL 10 (o_aload 11 0))))) (cN 17 (cN 11 (cL 11 (o_getf 14 7 0)) (cN 14 (cL 14 (o_getf 17 5 3)) (cL 17 (o_iload 18 1)))) (cN 19 (cN 18 (cL 18 (o_iload 19 2)) (cL 19 (o_iast 20))) (cN 20 (cL 20 (o_push 21 1)) (cL 21 (o_zret)))))
theorem sX9_carryOutSet : ∀ pc, Snd tX9_carryOutSet G1 pc (kX9_carryOutSet pc) := s_N (s_N (s_N (s_L (s_iload_n dX9_carryOutSet_0 rfl)) (s_N (s_L (s_iload_n dX9_carryOutSet_1 rfl)) (s_L (s_callS (d' := tX9_settingFits) (mc := 0) (ms := 0) cc_X9_carryOutSet_X9_settingFits qw_658 qw_659 dX9_carryOutSet_2)))) (s_N (s_N (s_L (s_o_if_ne dX9_carryOutSet_5 (by decide))) (s_L (s_iconst dX9_carryOutSet_8 (by decide +kernel)))) (s_N (s_L (s_zret rfl dX9_carryOutSet_9)) (s_L (s_aload_n dX9_carryOutSet_10 rfl))))) (s_N (s_N (s_L (s_getf ok_7 (k := 0) (by decide) dX9_carryOutSet_11 qw_319)) (s_N (s_L (s_getf ok_5 (k := 3) (by decide) dX9_carryOutSet_14 qw_245)) (s_L (s_iload_n dX9_carryOutSet_17 rfl)))) (s_N (s_N (s_L (s_iload_n dX9_carryOutSet_18 rfl)) (s_L (s_iast dX9_carryOutSet_19))) (s_N (s_L (s_iconst dX9_carryOutSet_20 (by decide +kernel))) (s_L (s_zret rfl dX9_carryOutSet_21)))))
