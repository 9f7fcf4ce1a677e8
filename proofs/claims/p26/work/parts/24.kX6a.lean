/-! PlateArm$State.<init> -/
theorem dX6_init_0 : decode cX6_init 0 = .ok (.aload_n 0, 1) := by decide +kernel
theorem dX6_init_1 : decode cX6_init 1 = .ok (.invokespecial 3, 3) := by decide +kernel
theorem dX6_init_4 : decode cX6_init 4 = .ok (.aload_n 0, 1) := by decide +kernel
theorem dX6_init_5 : decode cX6_init 5 = .ok (.bipush 12, 2) := by decide +kernel
theorem dX6_init_7 : decode cX6_init 7 = .ok (.putfield 9, 3) := by decide +kernel
theorem dX6_init_10 : decode cX6_init 10 = .ok (.aload_n 0, 1) := by decide +kernel
theorem dX6_init_11 : decode cX6_init 11 = .ok (.bipush 6, 2) := by decide +kernel
theorem dX6_init_13 : decode cX6_init 13 = .ok (.putfield 15, 3) := by decide +kernel
theorem dX6_init_16 : decode cX6_init 16 = .ok (.aload_n 0, 1) := by decide +kernel
theorem dX6_init_17 : decode cX6_init 17 = .ok (.iconst 4, 1) := by decide +kernel
theorem dX6_init_18 : decode cX6_init 18 = .ok (.newarray .int, 2) := by decide +kernel
theorem dX6_init_20 : decode cX6_init 20 = .ok (.dup, 1) := by decide +kernel
theorem dX6_init_21 : decode cX6_init 21 = .ok (.iconst 0, 1) := by decide +kernel
theorem dX6_init_22 : decode cX6_init 22 = .ok (.iconst 0, 1) := by decide +kernel
theorem dX6_init_23 : decode cX6_init 23 = .ok (.iastore, 1) := by decide +kernel
theorem dX6_init_24 : decode cX6_init 24 = .ok (.dup, 1) := by decide +kernel
theorem dX6_init_25 : decode cX6_init 25 = .ok (.iconst 1, 1) := by decide +kernel
theorem dX6_init_26 : decode cX6_init 26 = .ok (.iconst 3, 1) := by decide +kernel
theorem dX6_init_27 : decode cX6_init 27 = .ok (.iastore, 1) := by decide +kernel
theorem dX6_init_28 : decode cX6_init 28 = .ok (.dup, 1) := by decide +kernel
theorem dX6_init_29 : decode cX6_init 29 = .ok (.iconst 2, 1) := by decide +kernel
theorem dX6_init_30 : decode cX6_init 30 = .ok (.bipush 30, 2) := by decide +kernel
theorem dX6_init_32 : decode cX6_init 32 = .ok (.iastore, 1) := by decide +kernel
theorem dX6_init_33 : decode cX6_init 33 = .ok (.dup, 1) := by decide +kernel
theorem dX6_init_34 : decode cX6_init 34 = .ok (.iconst 3, 1) := by decide +kernel
theorem dX6_init_35 : decode cX6_init 35 = .ok (.iconst 0, 1) := by decide +kernel
theorem dX6_init_36 : decode cX6_init 36 = .ok (.iastore, 1) := by decide +kernel
theorem dX6_init_37 : decode cX6_init 37 = .ok (.putfield 18, 3) := by decide +kernel
theorem dX6_init_40 : decode cX6_init 40 = .ok (.aload_n 0, 1) := by decide +kernel
theorem dX6_init_41 : decode cX6_init 41 = .ok (.new 22, 3) := by decide +kernel
theorem dX6_init_44 : decode cX6_init 44 = .ok (.dup, 1) := by decide +kernel
theorem dX6_init_45 : decode cX6_init 45 = .ok (.invokespecial 24, 3) := by decide +kernel
theorem dX6_init_48 : decode cX6_init 48 = .ok (.putfield 25, 3) := by decide +kernel
theorem dX6_init_51 : decode cX6_init 51 = .ok (.aload_n 0, 1) := by decide +kernel
theorem dX6_init_52 : decode cX6_init 52 = .ok (.new 29, 3) := by decide +kernel
theorem dX6_init_55 : decode cX6_init 55 = .ok (.dup, 1) := by decide +kernel
theorem dX6_init_56 : decode cX6_init 56 = .ok (.invokespecial 31, 3) := by decide +kernel
theorem dX6_init_59 : decode cX6_init 59 = .ok (.putfield 32, 3) := by decide +kernel
theorem dX6_init_62 : decode cX6_init 62 = .ok (.aload_n 0, 1) := by decide +kernel
theorem dX6_init_63 : decode cX6_init 63 = .ok (.new 36, 3) := by decide +kernel
theorem dX6_init_66 : decode cX6_init 66 = .ok (.dup, 1) := by decide +kernel
theorem dX6_init_67 : decode cX6_init 67 = .ok (.invokespecial 38, 3) := by decide +kernel
theorem dX6_init_70 : decode cX6_init 70 = .ok (.putfield 39, 3) := by decide +kernel
theorem dX6_init_73 : decode cX6_init 73 = .ok (.aload_n 0, 1) := by decide +kernel
theorem dX6_init_74 : decode cX6_init 74 = .ok (.new 43, 3) := by decide +kernel
theorem dX6_init_77 : decode cX6_init 77 = .ok (.dup, 1) := by decide +kernel
theorem dX6_init_78 : decode cX6_init 78 = .ok (.invokespecial 45, 3) := by decide +kernel
theorem dX6_init_81 : decode cX6_init 81 = .ok (.putfield 46, 3) := by decide +kernel
theorem dX6_init_84 : decode cX6_init 84 = .ok (.return_, 1) := by decide +kernel
theorem cc_X6_init_X1_init : CallC tX6_init tX1_init 0 := ⟨by decide +kernel, by decide +kernel, by decide +kernel, by decide, by decide, qw_17, qw_51⟩
theorem cc_X6_init_X5_init : CallC tX6_init tX5_init 0 := ⟨by decide +kernel, by decide +kernel, by decide +kernel, by decide, by decide, qw_18, qw_84⟩
theorem cc_X6_init_X4_init : CallC tX6_init tX4_init 0 := ⟨by decide +kernel, by decide +kernel, by decide +kernel, by decide, by decide, qw_19, qw_124⟩
theorem cc_X6_init_X7_init : CallC tX6_init tX7_init 0 := ⟨by decide +kernel, by decide +kernel, by decide +kernel, by decide, by decide, qw_20, qw_138⟩
def kX6_init : Nat → WOp := cN 33 (cN 20 (cN 10 (cN 4 (cN 0 (cL 0 (o_aload 1 0)) (cN 1 (cL 1 (o_objinit 4)) (cL 4 (o_aload 5 0)))) (cN 5 (cL 5 (o_push 7 12)) (cN 7 (cL 7 (o_puti 10 5 0)) (cL 10 (o_aload 11 0))))) (cN 16 (cN 11 (cL 11 (o_push 13 6)) (cN 13 (cL 13 (o_puti 16 5 1)) (cL 16 (o_aload 17 0)))) (cN 17 (cL 17 (o_push 18 4)) (cN 18 (cL 18 (o_newa 20 0 4)) (cL 20 (o_dup 21)))))) (cN 26 (cN 23 (cN 21 (cL 21 (o_push 22 0)) (cN 22 (cL 22 (o_push 23 0)) (cL 23 (o_iast 24)))) (cN 24 (cL 24 (o_dup 25)) (cN 25 (cL 25 (o_push 26 1)) (cL 26 (o_push 27 3))))) (cN 29 (cN 27 (cL 27 (o_iast 28)) (cN 28 (cL 28 (o_dup 29)) (cL 29 (o_push 30 2)))) (cN 30 (cL 30 (o_push 32 30)) (cN 32 (cL 32 (o_iast 33)) (cL 33 (o_dup 34))))))) (cN 55 (cN 41 (cN 36 (cN 34 (cL 34 (o_push 35 3)) (cN 35 (cL 35 (o_push 36 0)) (cL 36 (o_iast 37)))) (cN 37 (cL 37 (o_putf 40 5 3 (.array .int))) (cN 40 (cL 40 (o_aload 41 0)) (cL 41 (o_new 44 0 5 [.int 0, .int 0, .int 0, .int 0, .int 0]))))) (cN 48 (cN 44 (cL 44 (o_dup 45)) (cN 45 (cL 45 (o_callI 48 0 tX1_init 0 0)) (cL 48 (o_putf 51 5 4 (.object "PlateArm$Arm"))))) (cN 51 (cL 51 (o_aload 52 0)) (cN 52 (cL 52 (o_new 55 4 7 [.int 0, .int 0, .null, .null, .null, .null, .null])) (cL 55 (o_dup 56)))))) (cN 67 (cN 62 (cN 56 (cL 56 (o_callI 59 0 tX5_init 5 60)) (cN 59 (cL 59 (o_putf 62 5 5 (.object "PlateArm$Requests"))) (cL 62 (o_aload 63 0)))) (cN 63 (cL 63 (o_new 66 3 2 [.int 0, .null])) (cN 66 (cL 66 (o_dup 67)) (cL 67 (o_callI 70 0 tX4_init 1 50))))) (cN 74 (cN 70 (cL 70 (o_putf 73 5 6 (.object "PlateArm$Log"))) (cN 73 (cL 73 (o_aload 74 0)) (cL 74 (o_new 77 6 7 [.int 0, .int 0, .int 0, .int 0, .int 0, .int 0, .int 0])))) (cN 78 (cN 77 (cL 77 (o_dup 78)) (cL 78 (o_callI 81 0 tX7_init 0 0))) (cN 81 (cL 81 (o_putf 84 5 7 (.object "PlateArm$Tally"))) (cL 84 (o_vret)))))))
theorem sX6_init : ∀ pc, Snd tX6_init G1 pc (kX6_init pc) := s_N (s_N (s_N (s_N (s_N (s_L (s_aload_n dX6_init_0 rfl)) (s_N (s_L (s_objinit qw_46 qw_39 qw_40 (by decide) (by decide) dX6_init_1)) (s_L (s_aload_n dX6_init_4 rfl)))) (s_N (s_L (s_bipush dX6_init_5 (by decide +kernel))) (s_N (s_L (s_puti ok_5 (k := 0) (by decide) rfl (Or.inl rfl) dX6_init_7 qw_176)) (s_L (s_aload_n dX6_init_10 rfl))))) (s_N (s_N (s_L (s_bipush dX6_init_11 (by decide +kernel))) (s_N (s_L (s_puti ok_5 (k := 1) (by decide) rfl (Or.inl rfl) dX6_init_13 qw_178)) (s_L (s_aload_n dX6_init_16 rfl)))) (s_N (s_L (s_iconst dX6_init_17 (by decide +kernel))) (s_N (s_L (s_newa (t := 0) (N := 4) (ty := .int) rfl (by decide) (by decide) qw_79 dX6_init_18)) (s_L (s_o_dup dX6_init_20)))))) (s_N (s_N (s_N (s_L (s_iconst dX6_init_21 (by decide +kernel))) (s_N (s_L (s_iconst dX6_init_22 (by decide +kernel))) (s_L (s_iast dX6_init_23)))) (s_N (s_L (s_o_dup dX6_init_24)) (s_N (s_L (s_iconst dX6_init_25 (by decide +kernel))) (s_L (s_iconst dX6_init_26 (by decide +kernel)))))) (s_N (s_N (s_L (s_iast dX6_init_27)) (s_N (s_L (s_o_dup dX6_init_28)) (s_L (s_iconst dX6_init_29 (by decide +kernel))))) (s_N (s_L (s_bipush dX6_init_30 (by decide +kernel))) (s_N (s_L (s_iast dX6_init_32)) (s_L (s_o_dup dX6_init_33))))))) (s_N (s_N (s_N (s_N (s_L (s_iconst dX6_init_34 (by decide +kernel))) (s_N (s_L (s_iconst dX6_init_35 (by decide +kernel))) (s_L (s_iast dX6_init_36)))) (s_N (s_L (s_putf ok_5 (k := 3) (by decide) rfl (Or.inr ⟨rfl, rfl, rfl⟩) dX6_init_37 qw_182)) (s_N (s_L (s_aload_n dX6_init_40 rfl)) (s_L (s_new ok_0 (fs := [.int 0, .int 0, .int 0, .int 0, .int 0]) (fun j hj => by rcases (show j = 0 ∨ j = 1 ∨ j = 2 ∨ j = 3 ∨ j = 4 by omega) with rfl | rfl | rfl | rfl | rfl <;> rfl) (by decide) qw_47 qw_48 qw_17 dX6_init_41))))) (s_N (s_N (s_L (s_o_dup dX6_init_44)) (s_N (s_L (s_callI (d' := tX1_init) (mc := 0) (ms := 0) cc_X6_init_X1_init rfl rfl (Or.inr ⟨"PlateArm", by simp [EWn, tX6_init, tX1_init, RX9, RX6, yX6_init, yX1_init, yX2_init, yX3_init, yX4_init, yX5_init, yX7_init, yX6_init]⟩) qw_50 dX6_init_45)) (s_L (s_putf ok_5 (k := 4) (by decide) rfl (Or.inr ⟨rfl, rfl, rfl⟩) dX6_init_48 qw_184)))) (s_N (s_L (s_aload_n dX6_init_51 rfl)) (s_N (s_L (s_new ok_4 (fs := [.int 0, .int 0, .null, .null, .null, .null, .null]) (fun j hj => by rcases (show j = 0 ∨ j = 1 ∨ j = 2 ∨ j = 3 ∨ j = 4 ∨ j = 5 ∨ j = 6 by omega) with rfl | rfl | rfl | rfl | rfl | rfl | rfl <;> rfl) (by decide) qw_80 qw_81 qw_18 dX6_init_52)) (s_L (s_o_dup dX6_init_55)))))) (s_N (s_N (s_N (s_L (s_callI (d' := tX5_init) (mc := 5) (ms := 60) cc_X6_init_X5_init rfl rfl (Or.inr ⟨"PlateArm", by simp [EWn, tX6_init, tX5_init, RX9, RX6, yX6_init, yX1_init, yX2_init, yX3_init, yX4_init, yX5_init, yX7_init, yX6_init]⟩) qw_83 dX6_init_56)) (s_N (s_L (s_putf ok_5 (k := 5) (by decide) rfl (Or.inr ⟨rfl, rfl, rfl⟩) dX6_init_59 qw_186)) (s_L (s_aload_n dX6_init_62 rfl)))) (s_N (s_L (s_new ok_3 (fs := [.int 0, .null]) (fun j hj => by rcases (show j = 0 ∨ j = 1 by omega) with rfl | rfl <;> rfl) (by decide) qw_120 qw_121 qw_19 dX6_init_63)) (s_N (s_L (s_o_dup dX6_init_66)) (s_L (s_callI (d' := tX4_init) (mc := 1) (ms := 50) cc_X6_init_X4_init rfl rfl (Or.inr ⟨"PlateArm", by simp [EWn, tX6_init, tX4_init, RX9, RX6, yX6_init, yX1_init, yX2_init, yX3_init, yX4_init, yX5_init, yX7_init, yX6_init]⟩) qw_123 dX6_init_67))))) (s_N (s_N (s_L (s_putf ok_5 (k := 6) (by decide) rfl (Or.inr ⟨rfl, rfl, rfl⟩) dX6_init_70 qw_188)) (s_N (s_L (s_aload_n dX6_init_73 rfl)) (s_L (s_new ok_6 (fs := [.int 0, .int 0, .int 0, .int 0, .int 0, .int 0, .int 0]) (fun j hj => by rcases (show j = 0 ∨ j = 1 ∨ j = 2 ∨ j = 3 ∨ j = 4 ∨ j = 5 ∨ j = 6 by omega) with rfl | rfl | rfl | rfl | rfl | rfl | rfl <;> rfl) (by decide) qw_134 qw_135 qw_20 dX6_init_74)))) (s_N (s_N (s_L (s_o_dup dX6_init_77)) (s_L (s_callI (d' := tX7_init) (mc := 0) (ms := 0) cc_X6_init_X7_init rfl rfl (Or.inr ⟨"PlateArm", by simp [EWn, tX6_init, tX7_init, RX9, RX6, yX6_init, yX1_init, yX2_init, yX3_init, yX4_init, yX5_init, yX7_init, yX6_init]⟩) qw_137 dX6_init_78))) (s_N (s_L (s_putf ok_5 (k := 7) (by decide) rfl (Or.inr ⟨rfl, rfl, rfl⟩) dX6_init_81 qw_190)) (s_L (s_vret rfl dX6_init_84)))))))
/-! PlateArm$State.putIn -/
theorem dX6_putIn_0 : decode cX6_putIn 0 = .ok (.aload_n 0, 1) := by decide +kernel
theorem dX6_putIn_1 : decode cX6_putIn 1 = .ok (.iload_n 1, 1) := by decide +kernel
theorem dX6_putIn_2 : decode cX6_putIn 2 = .ok (.putfield 9, 3) := by decide +kernel
theorem dX6_putIn_5 : decode cX6_putIn 5 = .ok (.aload_n 0, 1) := by decide +kernel
theorem dX6_putIn_6 : decode cX6_putIn 6 = .ok (.iload_n 2, 1) := by decide +kernel
theorem dX6_putIn_7 : decode cX6_putIn 7 = .ok (.putfield 15, 3) := by decide +kernel
theorem dX6_putIn_10 : decode cX6_putIn 10 = .ok (.aload_n 0, 1) := by decide +kernel
theorem dX6_putIn_11 : decode cX6_putIn 11 = .ok (.iconst 0, 1) := by decide +kernel
theorem dX6_putIn_12 : decode cX6_putIn 12 = .ok (.putfield 50, 3) := by decide +kernel
theorem dX6_putIn_15 : decode cX6_putIn 15 = .ok (.aload_n 0, 1) := by decide +kernel
theorem dX6_putIn_16 : decode cX6_putIn 16 = .ok (.getfield 25, 3) := by decide +kernel
theorem dX6_putIn_19 : decode cX6_putIn 19 = .ok (.invokevirtual 53, 3) := by decide +kernel
theorem dX6_putIn_22 : decode cX6_putIn 22 = .ok (.aload_n 0, 1) := by decide +kernel
theorem dX6_putIn_23 : decode cX6_putIn 23 = .ok (.getfield 32, 3) := by decide +kernel
theorem dX6_putIn_26 : decode cX6_putIn 26 = .ok (.invokevirtual 56, 3) := by decide +kernel
theorem dX6_putIn_29 : decode cX6_putIn 29 = .ok (.aload_n 0, 1) := by decide +kernel
theorem dX6_putIn_30 : decode cX6_putIn 30 = .ok (.getfield 39, 3) := by decide +kernel
theorem dX6_putIn_33 : decode cX6_putIn 33 = .ok (.invokevirtual 57, 3) := by decide +kernel
theorem dX6_putIn_36 : decode cX6_putIn 36 = .ok (.aload_n 0, 1) := by decide +kernel
theorem dX6_putIn_37 : decode cX6_putIn 37 = .ok (.getfield 46, 3) := by decide +kernel
theorem dX6_putIn_40 : decode cX6_putIn 40 = .ok (.invokevirtual 58, 3) := by decide +kernel
theorem dX6_putIn_43 : decode cX6_putIn 43 = .ok (.return_, 1) := by decide +kernel
theorem cc_X6_putIn_X1_reset : CallC tX6_putIn tX1_reset 0 := ⟨by decide +kernel, by decide +kernel, by decide +kernel, by decide, by decide, qw_17, qw_398⟩
theorem cc_X6_putIn_X5_reset : CallC tX6_putIn tX5_reset 0 := ⟨by decide +kernel, by decide +kernel, by decide +kernel, by decide, by decide, qw_18, qw_402⟩
theorem cc_X6_putIn_X4_reset : CallC tX6_putIn tX4_reset 0 := ⟨by decide +kernel, by decide +kernel, by decide +kernel, by decide, by decide, qw_19, qw_406⟩
theorem cc_X6_putIn_X7_reset : CallC tX6_putIn tX7_reset 0 := ⟨by decide +kernel, by decide +kernel, by decide +kernel, by decide, by decide, qw_20, qw_410⟩
def kX6_putIn : Nat → WOp := cN 16 (cN 6 (cN 1 (cN 0 (cL 0 (o_aload 1 0)) (cL 1 (o_iload 2 1))) (cN 2 (cL 2 (o_puti 5 5 0)) (cN 5 (cL 5 (o_aload 6 0)) (cL 6 (o_iload 7 2))))) (cN 11 (cN 7 (cL 7 (o_puti 10 5 1)) (cN 10 (cL 10 (o_aload 11 0)) (cL 11 (o_push 12 0)))) (cN 12 (cL 12 (o_puti 15 5 2)) (cN 15 (cL 15 (o_aload 16 0)) (cL 16 (o_getf 19 5 4)))))) (cN 29 (cN 22 (cN 19 (cL 19 (o_callV 22 0 0 tX1_reset 0 0)) (cL 22 (o_aload 23 0))) (cN 23 (cL 23 (o_getf 26 5 5)) (cN 26 (cL 26 (o_callV 29 4 0 tX5_reset 0 0)) (cL 29 (o_aload 30 0))))) (cN 36 (cN 30 (cL 30 (o_getf 33 5 6)) (cN 33 (cL 33 (o_callV 36 3 0 tX4_reset 0 0)) (cL 36 (o_aload 37 0)))) (cN 37 (cL 37 (o_getf 40 5 7)) (cN 40 (cL 40 (o_callV 43 6 0 tX7_reset 0 0)) (cL 43 (o_vret))))))
theorem sX6_putIn : ∀ pc, Snd tX6_putIn G1 pc (kX6_putIn pc) := s_N (s_N (s_N (s_N (s_L (s_aload_n dX6_putIn_0 rfl)) (s_L (s_iload_n dX6_putIn_1 rfl))) (s_N (s_L (s_puti ok_5 (k := 0) (by decide) rfl (Or.inl rfl) dX6_putIn_2 qw_176)) (s_N (s_L (s_aload_n dX6_putIn_5 rfl)) (s_L (s_iload_n dX6_putIn_6 rfl))))) (s_N (s_N (s_L (s_puti ok_5 (k := 1) (by decide) rfl (Or.inl rfl) dX6_putIn_7 qw_178)) (s_N (s_L (s_aload_n dX6_putIn_10 rfl)) (s_L (s_iconst dX6_putIn_11 (by decide +kernel))))) (s_N (s_L (s_puti ok_5 (k := 2) (by decide) rfl (Or.inl rfl) dX6_putIn_12 qw_180)) (s_N (s_L (s_aload_n dX6_putIn_15 rfl)) (s_L (s_getf ok_5 (k := 4) (by decide) dX6_putIn_16 qw_184)))))) (s_N (s_N (s_N (s_L (s_callV (d' := tX1_reset) (mc := 0) (ms := 0) ok_0 cc_X6_putIn_X1_reset qw_395 qw_396 qw_397 dX6_putIn_19)) (s_L (s_aload_n dX6_putIn_22 rfl))) (s_N (s_L (s_getf ok_5 (k := 5) (by decide) dX6_putIn_23 qw_186)) (s_N (s_L (s_callV (d' := tX5_reset) (mc := 0) (ms := 0) ok_4 cc_X6_putIn_X5_reset qw_399 qw_400 qw_401 dX6_putIn_26)) (s_L (s_aload_n dX6_putIn_29 rfl))))) (s_N (s_N (s_L (s_getf ok_5 (k := 6) (by decide) dX6_putIn_30 qw_188)) (s_N (s_L (s_callV (d' := tX4_reset) (mc := 0) (ms := 0) ok_3 cc_X6_putIn_X4_reset qw_403 qw_404 qw_405 dX6_putIn_33)) (s_L (s_aload_n dX6_putIn_36 rfl)))) (s_N (s_L (s_getf ok_5 (k := 7) (by decide) dX6_putIn_37 qw_190)) (s_N (s_L (s_callV (d' := tX7_reset) (mc := 0) (ms := 0) ok_6 cc_X6_putIn_X7_reset qw_407 qw_408 qw_409 dX6_putIn_40)) (s_L (s_vret rfl dX6_putIn_43))))))
/-! PlateArm$State.copyFrom -/
theorem dX6_copyFrom_0 : decode cX6_copyFrom 0 = .ok (.aload_n 0, 1) := by decide +kernel
theorem dX6_copyFrom_1 : decode cX6_copyFrom 1 = .ok (.aload_n 1, 1) := by decide +kernel
theorem dX6_copyFrom_2 : decode cX6_copyFrom 2 = .ok (.getfield 9, 3) := by decide +kernel
theorem dX6_copyFrom_5 : decode cX6_copyFrom 5 = .ok (.putfield 9, 3) := by decide +kernel
theorem dX6_copyFrom_8 : decode cX6_copyFrom 8 = .ok (.aload_n 0, 1) := by decide +kernel
theorem dX6_copyFrom_9 : decode cX6_copyFrom 9 = .ok (.aload_n 1, 1) := by decide +kernel
theorem dX6_copyFrom_10 : decode cX6_copyFrom 10 = .ok (.getfield 15, 3) := by decide +kernel
theorem dX6_copyFrom_13 : decode cX6_copyFrom 13 = .ok (.putfield 15, 3) := by decide +kernel
theorem dX6_copyFrom_16 : decode cX6_copyFrom 16 = .ok (.aload_n 0, 1) := by decide +kernel
theorem dX6_copyFrom_17 : decode cX6_copyFrom 17 = .ok (.aload_n 1, 1) := by decide +kernel
theorem dX6_copyFrom_18 : decode cX6_copyFrom 18 = .ok (.getfield 50, 3) := by decide +kernel
theorem dX6_copyFrom_21 : decode cX6_copyFrom 21 = .ok (.putfield 50, 3) := by decide +kernel
theorem dX6_copyFrom_24 : decode cX6_copyFrom 24 = .ok (.aload_n 1, 1) := by decide +kernel
theorem dX6_copyFrom_25 : decode cX6_copyFrom 25 = .ok (.getfield 18, 3) := by decide +kernel
theorem dX6_copyFrom_28 : decode cX6_copyFrom 28 = .ok (.iconst 0, 1) := by decide +kernel
theorem dX6_copyFrom_29 : decode cX6_copyFrom 29 = .ok (.aload_n 0, 1) := by decide +kernel
theorem dX6_copyFrom_30 : decode cX6_copyFrom 30 = .ok (.getfield 18, 3) := by decide +kernel
theorem dX6_copyFrom_33 : decode cX6_copyFrom 33 = .ok (.iconst 0, 1) := by decide +kernel
theorem dX6_copyFrom_34 : decode cX6_copyFrom 34 = .ok (.iconst 4, 1) := by decide +kernel
theorem dX6_copyFrom_35 : decode cX6_copyFrom 35 = .ok (.invokestatic 59, 3) := by decide +kernel
theorem dX6_copyFrom_38 : decode cX6_copyFrom 38 = .ok (.aload_n 0, 1) := by decide +kernel
theorem dX6_copyFrom_39 : decode cX6_copyFrom 39 = .ok (.getfield 25, 3) := by decide +kernel
theorem dX6_copyFrom_42 : decode cX6_copyFrom 42 = .ok (.aload_n 1, 1) := by decide +kernel
theorem dX6_copyFrom_43 : decode cX6_copyFrom 43 = .ok (.getfield 25, 3) := by decide +kernel
theorem dX6_copyFrom_46 : decode cX6_copyFrom 46 = .ok (.invokevirtual 65, 3) := by decide +kernel
theorem dX6_copyFrom_49 : decode cX6_copyFrom 49 = .ok (.aload_n 0, 1) := by decide +kernel
theorem dX6_copyFrom_50 : decode cX6_copyFrom 50 = .ok (.getfield 32, 3) := by decide +kernel
theorem dX6_copyFrom_53 : decode cX6_copyFrom 53 = .ok (.aload_n 1, 1) := by decide +kernel
theorem dX6_copyFrom_54 : decode cX6_copyFrom 54 = .ok (.getfield 32, 3) := by decide +kernel
theorem dX6_copyFrom_57 : decode cX6_copyFrom 57 = .ok (.invokevirtual 69, 3) := by decide +kernel
theorem dX6_copyFrom_60 : decode cX6_copyFrom 60 = .ok (.aload_n 0, 1) := by decide +kernel
theorem dX6_copyFrom_61 : decode cX6_copyFrom 61 = .ok (.getfield 39, 3) := by decide +kernel
theorem dX6_copyFrom_64 : decode cX6_copyFrom 64 = .ok (.aload_n 1, 1) := by decide +kernel
theorem dX6_copyFrom_65 : decode cX6_copyFrom 65 = .ok (.getfield 39, 3) := by decide +kernel
theorem dX6_copyFrom_68 : decode cX6_copyFrom 68 = .ok (.invokevirtual 72, 3) := by decide +kernel
theorem dX6_copyFrom_71 : decode cX6_copyFrom 71 = .ok (.aload_n 0, 1) := by decide +kernel
theorem dX6_copyFrom_72 : decode cX6_copyFrom 72 = .ok (.getfield 46, 3) := by decide +kernel
theorem dX6_copyFrom_75 : decode cX6_copyFrom 75 = .ok (.aload_n 1, 1) := by decide +kernel
theorem dX6_copyFrom_76 : decode cX6_copyFrom 76 = .ok (.getfield 46, 3) := by decide +kernel
theorem dX6_copyFrom_79 : decode cX6_copyFrom 79 = .ok (.invokevirtual 75, 3) := by decide +kernel
theorem dX6_copyFrom_82 : decode cX6_copyFrom 82 = .ok (.return_, 1) := by decide +kernel
theorem cc_X6_copyFrom_X1_copyFrom : CallC tX6_copyFrom tX1_copyFrom 1 := ⟨by decide +kernel, by decide +kernel, by decide +kernel, by decide, by decide, qw_17, qw_376⟩
theorem cc_X6_copyFrom_X5_copyFrom : CallC tX6_copyFrom tX5_copyFrom 1 := ⟨by decide +kernel, by decide +kernel, by decide +kernel, by decide, by decide, qw_18, qw_380⟩
theorem cc_X6_copyFrom_X4_copyFrom : CallC tX6_copyFrom tX4_copyFrom 1 := ⟨by decide +kernel, by decide +kernel, by decide +kernel, by decide, by decide, qw_19, qw_385⟩
theorem cc_X6_copyFrom_X7_copyFrom : CallC tX6_copyFrom tX7_copyFrom 1 := ⟨by decide +kernel, by decide +kernel, by decide +kernel, by decide, by decide, qw_20, qw_390⟩
def kX6_copyFrom : Nat → WOp := cN 35 (cN 17 (cN 8 (cN 1 (cN 0 (cL 0 (o_aload 1 0)) (cL 1 (o_aload 2 1))) (cN 2 (cL 2 (o_getf 5 5 0)) (cN 5 (cL 5 (o_puti 8 5 0)) (cL 8 (o_aload 9 0))))) (cN 10 (cN 9 (cL 9 (o_aload 10 1)) (cL 10 (o_getf 13 5 1))) (cN 13 (cL 13 (o_puti 16 5 1)) (cN 16 (cL 16 (o_aload 17 0)) (cL 17 (o_aload 18 1)))))) (cN 28 (cN 21 (cN 18 (cL 18 (o_getf 21 5 2)) (cL 21 (o_puti 24 5 2))) (cN 24 (cL 24 (o_aload 25 1)) (cN 25 (cL 25 (o_getf 28 5 3)) (cL 28 (o_push 29 0))))) (cN 30 (cN 29 (cL 29 (o_aload 30 0)) (cL 30 (o_getf 33 5 3))) (cN 33 (cL 33 (o_push 34 0)) (cN 34 (cL 34 (o_push 35 4)) (cL 35 (o_copy 38))))))) (cN 57 (cN 46 (cN 39 (cN 38 (cL 38 (o_aload 39 0)) (cL 39 (o_getf 42 5 4))) (cN 42 (cL 42 (o_aload 43 1)) (cN 43 (cL 43 (o_getf 46 5 4)) (cL 46 (o_callV 49 0 1 tX1_copyFrom 0 0))))) (cN 50 (cN 49 (cL 49 (o_aload 50 0)) (cL 50 (o_getf 53 5 5))) (cN 53 (cL 53 (o_aload 54 1)) (cN 54 (cL 54 (o_getf 57 5 5)) (cL 57 (o_callV 60 4 1 tX5_copyFrom 0 0)))))) (cN 68 (cN 61 (cN 60 (cL 60 (o_aload 61 0)) (cL 61 (o_getf 64 5 6))) (cN 64 (cL 64 (o_aload 65 1)) (cN 65 (cL 65 (o_getf 68 5 6)) (cL 68 (o_callV 71 3 1 tX4_copyFrom 0 0))))) (cN 75 (cN 71 (cL 71 (o_aload 72 0)) (cN 72 (cL 72 (o_getf 75 5 7)) (cL 75 (o_aload 76 1)))) (cN 76 (cL 76 (o_getf 79 5 7)) (cN 79 (cL 79 (o_callV 82 6 1 tX7_copyFrom 0 0)) (cL 82 (o_vret)))))))
theorem sX6_copyFrom : ∀ pc, Snd tX6_copyFrom G1 pc (kX6_copyFrom pc) := s_N (s_N (s_N (s_N (s_N (s_L (s_aload_n dX6_copyFrom_0 rfl)) (s_L (s_aload_n dX6_copyFrom_1 rfl))) (s_N (s_L (s_getf ok_5 (k := 0) (by decide) dX6_copyFrom_2 qw_176)) (s_N (s_L (s_puti ok_5 (k := 0) (by decide) rfl (Or.inl rfl) dX6_copyFrom_5 qw_176)) (s_L (s_aload_n dX6_copyFrom_8 rfl))))) (s_N (s_N (s_L (s_aload_n dX6_copyFrom_9 rfl)) (s_L (s_getf ok_5 (k := 1) (by decide) dX6_copyFrom_10 qw_178))) (s_N (s_L (s_puti ok_5 (k := 1) (by decide) rfl (Or.inl rfl) dX6_copyFrom_13 qw_178)) (s_N (s_L (s_aload_n dX6_copyFrom_16 rfl)) (s_L (s_aload_n dX6_copyFrom_17 rfl)))))) (s_N (s_N (s_N (s_L (s_getf ok_5 (k := 2) (by decide) dX6_copyFrom_18 qw_180)) (s_L (s_puti ok_5 (k := 2) (by decide) rfl (Or.inl rfl) dX6_copyFrom_21 qw_180))) (s_N (s_L (s_aload_n dX6_copyFrom_24 rfl)) (s_N (s_L (s_getf ok_5 (k := 3) (by decide) dX6_copyFrom_25 qw_182)) (s_L (s_iconst dX6_copyFrom_28 (by decide +kernel)))))) (s_N (s_N (s_L (s_aload_n dX6_copyFrom_29 rfl)) (s_L (s_getf ok_5 (k := 3) (by decide) dX6_copyFrom_30 qw_182))) (s_N (s_L (s_iconst dX6_copyFrom_33 (by decide +kernel))) (s_N (s_L (s_iconst dX6_copyFrom_34 (by decide +kernel))) (s_L (s_copy qw_370 qw_372 qw_371 qw_31 (by decide) (by decide +kernel) dX6_copyFrom_35))))))) (s_N (s_N (s_N (s_N (s_L (s_aload_n dX6_copyFrom_38 rfl)) (s_L (s_getf ok_5 (k := 4) (by decide) dX6_copyFrom_39 qw_184))) (s_N (s_L (s_aload_n dX6_copyFrom_42 rfl)) (s_N (s_L (s_getf ok_5 (k := 4) (by decide) dX6_copyFrom_43 qw_184)) (s_L (s_callV (d' := tX1_copyFrom) (mc := 0) (ms := 0) ok_0 cc_X6_copyFrom_X1_copyFrom qw_373 qw_374 qw_375 dX6_copyFrom_46))))) (s_N (s_N (s_L (s_aload_n dX6_copyFrom_49 rfl)) (s_L (s_getf ok_5 (k := 5) (by decide) dX6_copyFrom_50 qw_186))) (s_N (s_L (s_aload_n dX6_copyFrom_53 rfl)) (s_N (s_L (s_getf ok_5 (k := 5) (by decide) dX6_copyFrom_54 qw_186)) (s_L (s_callV (d' := tX5_copyFrom) (mc := 0) (ms := 0) ok_4 cc_X6_copyFrom_X5_copyFrom qw_377 qw_378 qw_379 dX6_copyFrom_57)))))) (s_N (s_N (s_N (s_L (s_aload_n dX6_copyFrom_60 rfl)) (s_L (s_getf ok_5 (k := 6) (by decide) dX6_copyFrom_61 qw_188))) (s_N (s_L (s_aload_n dX6_copyFrom_64 rfl)) (s_N (s_L (s_getf ok_5 (k := 6) (by decide) dX6_copyFrom_65 qw_188)) (s_L (s_callV (d' := tX4_copyFrom) (mc := 0) (ms := 0) ok_3 cc_X6_copyFrom_X4_copyFrom qw_382 qw_383 qw_384 dX6_copyFrom_68))))) (s_N (s_N (s_L (s_aload_n dX6_copyFrom_71 rfl)) (s_N (s_L (s_getf ok_5 (k := 7) (by decide) dX6_copyFrom_72 qw_190)) (s_L (s_aload_n dX6_copyFrom_75 rfl)))) (s_N (s_L (s_getf ok_5 (k := 7) (by decide) dX6_copyFrom_76 qw_190)) (s_N (s_L (s_callV (d' := tX7_copyFrom) (mc := 0) (ms := 0) ok_6 cc_X6_copyFrom_X7_copyFrom qw_387 qw_388 qw_389 dX6_copyFrom_79)) (s_L (s_vret rfl dX6_copyFrom_82)))))))
/-! PlateArm$State.sectorUnderArm -/
theorem dX6_sectorUnderArm_0 : decode cX6_sectorUnderArm 0 = .ok (.aload_n 0, 1) := by decide +kernel
theorem dX6_sectorUnderArm_1 : decode cX6_sectorUnderArm 1 = .ok (.getfield 15, 3) := by decide +kernel
theorem dX6_sectorUnderArm_4 : decode cX6_sectorUnderArm 4 = .ok (.ifCond .ne 7, 3) := by decide +kernel
theorem dX6_sectorUnderArm_7 : decode cX6_sectorUnderArm 7 = .ok (.iconst 0, 1) := by decide +kernel
theorem dX6_sectorUnderArm_8 : decode cX6_sectorUnderArm 8 = .ok (.goto 12, 3) := by decide +kernel
theorem dX6_sectorUnderArm_11 : decode cX6_sectorUnderArm 11 = .ok (.aload_n 0, 1) := by decide +kernel
theorem dX6_sectorUnderArm_12 : decode cX6_sectorUnderArm 12 = .ok (.getfield 50, 3) := by decide +kernel
theorem dX6_sectorUnderArm_15 : decode cX6_sectorUnderArm 15 = .ok (.aload_n 0, 1) := by decide +kernel
theorem dX6_sectorUnderArm_16 : decode cX6_sectorUnderArm 16 = .ok (.getfield 15, 3) := by decide +kernel
theorem dX6_sectorUnderArm_19 : decode cX6_sectorUnderArm 19 = .ok (.irem, 1) := by decide +kernel
theorem dX6_sectorUnderArm_20 : decode cX6_sectorUnderArm 20 = .ok (.ireturn, 1) := by decide +kernel
def kX6_sectorUnderArm : Nat → WOp := cN 8 (cN 1 (cN 0 (cL 0 (o_aload 1 0)) (cL 1 (o_getf 4 5 1))) (cN 4 (cL 4 (o_if_ne 11 7)) (cN 7 (cL 7 (o_push 8 0)) (cL 8 (o_goto 20))))) (cN 15 (cN 11 (cL 11 (o_aload 12 0)) (cN 12 (cL 12 (o_getf 15 5 2)) (cL 15 (o_aload 16 0)))) (cN 16 (cL 16 (o_getf 19 5 1)) (cN 19 (cL 19 (o_irem 20)) (cL 20 (o_iret)))))
theorem sX6_sectorUnderArm : ∀ pc, Snd tX6_sectorUnderArm G1 pc (kX6_sectorUnderArm pc) := s_N (s_N (s_N (s_L (s_aload_n dX6_sectorUnderArm_0 rfl)) (s_L (s_getf ok_5 (k := 1) (by decide) dX6_sectorUnderArm_1 qw_178))) (s_N (s_L (s_o_if_ne dX6_sectorUnderArm_4 (by decide))) (s_N (s_L (s_iconst dX6_sectorUnderArm_7 (by decide +kernel))) (s_L (s_o_goto dX6_sectorUnderArm_8 (by decide)))))) (s_N (s_N (s_L (s_aload_n dX6_sectorUnderArm_11 rfl)) (s_N (s_L (s_getf ok_5 (k := 2) (by decide) dX6_sectorUnderArm_12 qw_180)) (s_L (s_aload_n dX6_sectorUnderArm_15 rfl)))) (s_N (s_L (s_getf ok_5 (k := 1) (by decide) dX6_sectorUnderArm_16 qw_178)) (s_N (s_L (s_o_irem dX6_sectorUnderArm_19)) (s_L (s_iret rfl dX6_sectorUnderArm_20)))))
/-! PlateArm$State.passTicks -/
theorem dX6_passTicks_0 : decode cX6_passTicks 0 = .ok (.iconst 0, 1) := by decide +kernel
theorem dX6_passTicks_1 : decode cX6_passTicks 1 = .ok (.istore_n 2, 1) := by decide +kernel
theorem dX6_passTicks_2 : decode cX6_passTicks 2 = .ok (.iload_n 2, 1) := by decide +kernel
theorem dX6_passTicks_3 : decode cX6_passTicks 3 = .ok (.iload_n 1, 1) := by decide +kernel
theorem dX6_passTicks_4 : decode cX6_passTicks 4 = .ok (.if_icmp .ge 17, 3) := by decide +kernel
theorem dX6_passTicks_7 : decode cX6_passTicks 7 = .ok (.aload_n 0, 1) := by decide +kernel
theorem dX6_passTicks_8 : decode cX6_passTicks 8 = .ok (.invokevirtual 78, 3) := by decide +kernel
theorem dX6_passTicks_11 : decode cX6_passTicks 11 = .ok (.aload_n 0, 1) := by decide +kernel
theorem dX6_passTicks_12 : decode cX6_passTicks 12 = .ok (.invokevirtual 81, 3) := by decide +kernel
theorem dX6_passTicks_15 : decode cX6_passTicks 15 = .ok (.iinc 2 1, 3) := by decide +kernel
theorem dX6_passTicks_18 : decode cX6_passTicks 18 = .ok (.goto (-16), 3) := by decide +kernel
theorem dX6_passTicks_21 : decode cX6_passTicks 21 = .ok (.return_, 1) := by decide +kernel
theorem cc_X6_passTicks_X6_beginTick : CallC tX6_passTicks tX6_beginTick 0 := ⟨by decide +kernel, by decide +kernel, by decide +kernel, by decide, by decide, qw_16, qw_519⟩
theorem cc_X6_passTicks_X6_endTick : CallC tX6_passTicks tX6_endTick 0 := ⟨by decide +kernel, by decide +kernel, by decide +kernel, by decide, by decide, qw_16, qw_566⟩
def kX6_passTicks : Nat → WOp := cN 7 (cN 2 (cN 0 (cL 0 (o_push 1 0)) (cN 1 (cL 1 (o_istore 2 2)) (cL 2 (o_iload 3 2)))) (cN 3 (cL 3 (o_iload 4 1)) (cN 4 (cL 4 (o_icmp_ge 21 7)) (cL 7 (o_aload 8 0))))) (cN 12 (cN 8 (cL 8 (o_callV 11 5 0 tX6_beginTick 0 0)) (cN 11 (cL 11 (o_aload 12 0)) (cL 12 (o_callV 15 5 0 tX6_endTick 0 0)))) (cN 15 (cL 15 (o_iinc 18 2 1)) (cN 18 (cL 18 (o_goto 2)) (cL 21 (o_vret)))))
theorem sX6_passTicks : ∀ pc, Snd tX6_passTicks G1 pc (kX6_passTicks pc) := s_N (s_N (s_N (s_L (s_iconst dX6_passTicks_0 (by decide +kernel))) (s_N (s_L (s_istore_n dX6_passTicks_1 rfl (by decide))) (s_L (s_iload_n dX6_passTicks_2 rfl)))) (s_N (s_L (s_iload_n dX6_passTicks_3 rfl)) (s_N (s_L (s_o_icmp_ge dX6_passTicks_4 (by decide))) (s_L (s_aload_n dX6_passTicks_7 rfl))))) (s_N (s_N (s_L (s_callV (d' := tX6_beginTick) (mc := 0) (ms := 0) ok_5 cc_X6_passTicks_X6_beginTick qw_516 qw_518 qw_4 dX6_passTicks_8)) (s_N (s_L (s_aload_n dX6_passTicks_11 rfl)) (s_L (s_callV (d' := tX6_endTick) (mc := 0) (ms := 0) ok_5 cc_X6_passTicks_X6_endTick qw_563 qw_565 qw_10 dX6_passTicks_12)))) (s_N (s_L (s_iinc (v := 1) dX6_passTicks_15 (by decide +kernel) (by decide))) (s_N (s_L (s_o_goto dX6_passTicks_18 (by decide))) (s_L (s_vret rfl dX6_passTicks_21)))))
/-! PlateArm$State.passUntilEmpty -/
theorem dX6_passUntilEmpty_0 : decode cX6_passUntilEmpty 0 = .ok (.iconst 0, 1) := by decide +kernel
theorem dX6_passUntilEmpty_1 : decode cX6_passUntilEmpty 1 = .ok (.istore_n 1, 1) := by decide +kernel
theorem dX6_passUntilEmpty_2 : decode cX6_passUntilEmpty 2 = .ok (.iload_n 1, 1) := by decide +kernel
theorem dX6_passUntilEmpty_3 : decode cX6_passUntilEmpty 3 = .ok (.sipush 500, 3) := by decide +kernel
theorem dX6_passUntilEmpty_6 : decode cX6_passUntilEmpty 6 = .ok (.if_icmp .ge 27, 3) := by decide +kernel
theorem dX6_passUntilEmpty_9 : decode cX6_passUntilEmpty 9 = .ok (.aload_n 0, 1) := by decide +kernel
theorem dX6_passUntilEmpty_10 : decode cX6_passUntilEmpty 10 = .ok (.getfield 32, 3) := by decide +kernel
theorem dX6_passUntilEmpty_13 : decode cX6_passUntilEmpty 13 = .ok (.getfield 84, 3) := by decide +kernel
theorem dX6_passUntilEmpty_16 : decode cX6_passUntilEmpty 16 = .ok (.ifCond .le 17, 3) := by decide +kernel
theorem dX6_passUntilEmpty_19 : decode cX6_passUntilEmpty 19 = .ok (.aload_n 0, 1) := by decide +kernel
theorem dX6_passUntilEmpty_20 : decode cX6_passUntilEmpty 20 = .ok (.invokevirtual 78, 3) := by decide +kernel
theorem dX6_passUntilEmpty_23 : decode cX6_passUntilEmpty 23 = .ok (.aload_n 0, 1) := by decide +kernel
theorem dX6_passUntilEmpty_24 : decode cX6_passUntilEmpty 24 = .ok (.invokevirtual 81, 3) := by decide +kernel
theorem dX6_passUntilEmpty_27 : decode cX6_passUntilEmpty 27 = .ok (.iinc 1 1, 3) := by decide +kernel
theorem dX6_passUntilEmpty_30 : decode cX6_passUntilEmpty 30 = .ok (.goto (-28), 3) := by decide +kernel
theorem dX6_passUntilEmpty_33 : decode cX6_passUntilEmpty 33 = .ok (.iload_n 1, 1) := by decide +kernel
theorem dX6_passUntilEmpty_34 : decode cX6_passUntilEmpty 34 = .ok (.ireturn, 1) := by decide +kernel
theorem cc_X6_passUntilEmpty_X6_beginTick : CallC tX6_passUntilEmpty tX6_beginTick 0 := ⟨by decide +kernel, by decide +kernel, by decide +kernel, by decide, by decide, qw_16, qw_519⟩
theorem cc_X6_passUntilEmpty_X6_endTick : CallC tX6_passUntilEmpty tX6_endTick 0 := ⟨by decide +kernel, by decide +kernel, by decide +kernel, by decide, by decide, qw_16, qw_566⟩
def kX6_passUntilEmpty : Nat → WOp := cN 13 (cN 3 (cN 1 (cN 0 (cL 0 (o_push 1 0)) (cL 1 (o_istore 2 1))) (cN 2 (cL 2 (o_iload 3 1)) (cL 3 (o_push 6 500)))) (cN 9 (cN 6 (cL 6 (o_icmp_ge 33 9)) (cL 9 (o_aload 10 0))) (cN 10 (cL 10 (o_getf 13 5 5)) (cL 13 (o_getf 16 4 0))))) (cN 23 (cN 19 (cN 16 (cL 16 (o_if_le 33 19)) (cL 19 (o_aload 20 0))) (cN 20 (cL 20 (o_callV 23 5 0 tX6_beginTick 0 0)) (cL 23 (o_aload 24 0)))) (cN 27 (cN 24 (cL 24 (o_callV 27 5 0 tX6_endTick 0 0)) (cL 27 (o_iinc 30 1 1))) (cN 30 (cL 30 (o_goto 2)) (cN 33 (cL 33 (o_iload 34 1)) (cL 34 (o_iret))))))
theorem sX6_passUntilEmpty : ∀ pc, Snd tX6_passUntilEmpty G1 pc (kX6_passUntilEmpty pc) := s_N (s_N (s_N (s_N (s_L (s_iconst dX6_passUntilEmpty_0 (by decide +kernel))) (s_L (s_istore_n dX6_passUntilEmpty_1 rfl (by decide)))) (s_N (s_L (s_iload_n dX6_passUntilEmpty_2 rfl)) (s_L (s_sipush dX6_passUntilEmpty_3 (by decide +kernel))))) (s_N (s_N (s_L (s_o_icmp_ge dX6_passUntilEmpty_6 (by decide))) (s_L (s_aload_n dX6_passUntilEmpty_9 rfl))) (s_N (s_L (s_getf ok_5 (k := 5) (by decide) dX6_passUntilEmpty_10 qw_186)) (s_L (s_getf ok_4 (k := 0) (by decide) dX6_passUntilEmpty_13 qw_88))))) (s_N (s_N (s_N (s_L (s_o_if_le dX6_passUntilEmpty_16 (by decide))) (s_L (s_aload_n dX6_passUntilEmpty_19 rfl))) (s_N (s_L (s_callV (d' := tX6_beginTick) (mc := 0) (ms := 0) ok_5 cc_X6_passUntilEmpty_X6_beginTick qw_516 qw_518 qw_4 dX6_passUntilEmpty_20)) (s_L (s_aload_n dX6_passUntilEmpty_23 rfl)))) (s_N (s_N (s_L (s_callV (d' := tX6_endTick) (mc := 0) (ms := 0) ok_5 cc_X6_passUntilEmpty_X6_endTick qw_563 qw_565 qw_10 dX6_passUntilEmpty_24)) (s_L (s_iinc (v := 1) dX6_passUntilEmpty_27 (by decide +kernel) (by decide)))) (s_N (s_L (s_o_goto dX6_passUntilEmpty_30 (by decide))) (s_N (s_L (s_iload_n dX6_passUntilEmpty_33 rfl)) (s_L (s_iret rfl dX6_passUntilEmpty_34))))))
/-! PlateArm$State.beginTick -/
theorem dX6_beginTick_0 : decode cX6_beginTick 0 = .ok (.aload_n 0, 1) := by decide +kernel
theorem dX6_beginTick_1 : decode cX6_beginTick 1 = .ok (.getfield 25, 3) := by decide +kernel
theorem dX6_beginTick_4 : decode cX6_beginTick 4 = .ok (.getfield 112, 3) := by decide +kernel
theorem dX6_beginTick_7 : decode cX6_beginTick 7 = .ok (.ifCond .eq 16, 3) := by decide +kernel
theorem dX6_beginTick_10 : decode cX6_beginTick 10 = .ok (.aload_n 0, 1) := by decide +kernel
theorem dX6_beginTick_11 : decode cX6_beginTick 11 = .ok (.getfield 46, 3) := by decide +kernel
theorem dX6_beginTick_14 : decode cX6_beginTick 14 = .ok (.dup, 1) := by decide +kernel
theorem dX6_beginTick_15 : decode cX6_beginTick 15 = .ok (.getfield 122, 3) := by decide +kernel
theorem dX6_beginTick_18 : decode cX6_beginTick 18 = .ok (.iconst 1, 1) := by decide +kernel
theorem dX6_beginTick_19 : decode cX6_beginTick 19 = .ok (.iadd, 1) := by decide +kernel
theorem dX6_beginTick_20 : decode cX6_beginTick 20 = .ok (.putfield 122, 3) := by decide +kernel
theorem dX6_beginTick_23 : decode cX6_beginTick 23 = .ok (.aload_n 0, 1) := by decide +kernel
theorem dX6_beginTick_24 : decode cX6_beginTick 24 = .ok (.aload_n 0, 1) := by decide +kernel
theorem dX6_beginTick_25 : decode cX6_beginTick 25 = .ok (.getfield 18, 3) := by decide +kernel
theorem dX6_beginTick_28 : decode cX6_beginTick 28 = .ok (.iconst 0, 1) := by decide +kernel
theorem dX6_beginTick_29 : decode cX6_beginTick 29 = .ok (.iaload, 1) := by decide +kernel
theorem dX6_beginTick_30 : decode cX6_beginTick 30 = .ok (.aload_n 0, 1) := by decide +kernel
theorem dX6_beginTick_31 : decode cX6_beginTick 31 = .ok (.getfield 25, 3) := by decide +kernel
theorem dX6_beginTick_34 : decode cX6_beginTick 34 = .ok (.getfield 91, 3) := by decide +kernel
theorem dX6_beginTick_37 : decode cX6_beginTick 37 = .ok (.invokevirtual 94, 3) := by decide +kernel
theorem dX6_beginTick_40 : decode cX6_beginTick 40 = .ok (.istore_n 1, 1) := by decide +kernel
theorem dX6_beginTick_41 : decode cX6_beginTick 41 = .ok (.iload_n 1, 1) := by decide +kernel
theorem dX6_beginTick_42 : decode cX6_beginTick 42 = .ok (.iconst (-1), 1) := by decide +kernel
theorem dX6_beginTick_43 : decode cX6_beginTick 43 = .ok (.if_icmp .ne 48, 3) := by decide +kernel
theorem dX6_beginTick_46 : decode cX6_beginTick 46 = .ok (.aload_n 0, 1) := by decide +kernel
theorem dX6_beginTick_47 : decode cX6_beginTick 47 = .ok (.getfield 32, 3) := by decide +kernel
theorem dX6_beginTick_50 : decode cX6_beginTick 50 = .ok (.getfield 84, 3) := by decide +kernel
theorem dX6_beginTick_53 : decode cX6_beginTick 53 = .ok (.ifCond .le 38, 3) := by decide +kernel
theorem dX6_beginTick_56 : decode cX6_beginTick 56 = .ok (.aload_n 0, 1) := by decide +kernel
theorem dX6_beginTick_57 : decode cX6_beginTick 57 = .ok (.getfield 25, 3) := by decide +kernel
theorem dX6_beginTick_60 : decode cX6_beginTick 60 = .ok (.aload_n 0, 1) := by decide +kernel
theorem dX6_beginTick_61 : decode cX6_beginTick 61 = .ok (.getfield 25, 3) := by decide +kernel
theorem dX6_beginTick_64 : decode cX6_beginTick 64 = .ok (.getfield 91, 3) := by decide +kernel
theorem dX6_beginTick_67 : decode cX6_beginTick 67 = .ok (.invokestatic 98, 3) := by decide +kernel
theorem dX6_beginTick_70 : decode cX6_beginTick 70 = .ok (.putfield 91, 3) := by decide +kernel
theorem dX6_beginTick_73 : decode cX6_beginTick 73 = .ok (.aload_n 0, 1) := by decide +kernel
theorem dX6_beginTick_74 : decode cX6_beginTick 74 = .ok (.aload_n 0, 1) := by decide +kernel
theorem dX6_beginTick_75 : decode cX6_beginTick 75 = .ok (.getfield 18, 3) := by decide +kernel
theorem dX6_beginTick_78 : decode cX6_beginTick 78 = .ok (.iconst 0, 1) := by decide +kernel
theorem dX6_beginTick_79 : decode cX6_beginTick 79 = .ok (.iaload, 1) := by decide +kernel
theorem dX6_beginTick_80 : decode cX6_beginTick 80 = .ok (.aload_n 0, 1) := by decide +kernel
theorem dX6_beginTick_81 : decode cX6_beginTick 81 = .ok (.getfield 25, 3) := by decide +kernel
theorem dX6_beginTick_84 : decode cX6_beginTick 84 = .ok (.getfield 91, 3) := by decide +kernel
theorem dX6_beginTick_87 : decode cX6_beginTick 87 = .ok (.invokevirtual 94, 3) := by decide +kernel
theorem dX6_beginTick_90 : decode cX6_beginTick 90 = .ok (.istore_n 1, 1) := by decide +kernel
theorem dX6_beginTick_91 : decode cX6_beginTick 91 = .ok (.iload_n 1, 1) := by decide +kernel
theorem dX6_beginTick_92 : decode cX6_beginTick 92 = .ok (.iconst (-1), 1) := by decide +kernel
theorem dX6_beginTick_93 : decode cX6_beginTick 93 = .ok (.if_icmp .ne 13, 3) := by decide +kernel
theorem dX6_beginTick_96 : decode cX6_beginTick 96 = .ok (.aload_n 0, 1) := by decide +kernel
theorem dX6_beginTick_97 : decode cX6_beginTick 97 = .ok (.getfield 25, 3) := by decide +kernel
theorem dX6_beginTick_100 : decode cX6_beginTick 100 = .ok (.getfield 106, 3) := by decide +kernel
theorem dX6_beginTick_103 : decode cX6_beginTick 103 = .ok (.goto 12, 3) := by decide +kernel
theorem dX6_beginTick_106 : decode cX6_beginTick 106 = .ok (.aload_n 0, 1) := by decide +kernel
theorem dX6_beginTick_107 : decode cX6_beginTick 107 = .ok (.getfield 32, 3) := by decide +kernel
theorem dX6_beginTick_110 : decode cX6_beginTick 110 = .ok (.getfield 104, 3) := by decide +kernel
theorem dX6_beginTick_113 : decode cX6_beginTick 113 = .ok (.iload_n 1, 1) := by decide +kernel
theorem dX6_beginTick_114 : decode cX6_beginTick 114 = .ok (.iaload, 1) := by decide +kernel
theorem dX6_beginTick_115 : decode cX6_beginTick 115 = .ok (.istore_n 2, 1) := by decide +kernel
theorem dX6_beginTick_116 : decode cX6_beginTick 116 = .ok (.aload_n 0, 1) := by decide +kernel
theorem dX6_beginTick_117 : decode cX6_beginTick 117 = .ok (.getfield 25, 3) := by decide +kernel
theorem dX6_beginTick_120 : decode cX6_beginTick 120 = .ok (.getfield 101, 3) := by decide +kernel
theorem dX6_beginTick_123 : decode cX6_beginTick 123 = .ok (.ifCond .eq 9, 3) := by decide +kernel
theorem dX6_beginTick_126 : decode cX6_beginTick 126 = .ok (.aload_n 0, 1) := by decide +kernel
theorem dX6_beginTick_127 : decode cX6_beginTick 127 = .ok (.iload_n 2, 1) := by decide +kernel
theorem dX6_beginTick_128 : decode cX6_beginTick 128 = .ok (.invokevirtual 125, 3) := by decide +kernel
theorem dX6_beginTick_131 : decode cX6_beginTick 131 = .ok (.return_, 1) := by decide +kernel
theorem dX6_beginTick_132 : decode cX6_beginTick 132 = .ok (.iload_n 2, 1) := by decide +kernel
theorem dX6_beginTick_133 : decode cX6_beginTick 133 = .ok (.aload_n 0, 1) := by decide +kernel
theorem dX6_beginTick_134 : decode cX6_beginTick 134 = .ok (.getfield 25, 3) := by decide +kernel
theorem dX6_beginTick_137 : decode cX6_beginTick 137 = .ok (.getfield 106, 3) := by decide +kernel
theorem dX6_beginTick_140 : decode cX6_beginTick 140 = .ok (.if_icmp .eq 19, 3) := by decide +kernel
theorem dX6_beginTick_143 : decode cX6_beginTick 143 = .ok (.aload_n 0, 1) := by decide +kernel
theorem dX6_beginTick_144 : decode cX6_beginTick 144 = .ok (.getfield 25, 3) := by decide +kernel
theorem dX6_beginTick_147 : decode cX6_beginTick 147 = .ok (.getfield 112, 3) := by decide +kernel
theorem dX6_beginTick_150 : decode cX6_beginTick 150 = .ok (.ifCond .ne 9, 3) := by decide +kernel
theorem dX6_beginTick_153 : decode cX6_beginTick 153 = .ok (.aload_n 0, 1) := by decide +kernel
theorem dX6_beginTick_154 : decode cX6_beginTick 154 = .ok (.iload_n 2, 1) := by decide +kernel
theorem dX6_beginTick_155 : decode cX6_beginTick 155 = .ok (.invokevirtual 129, 3) := by decide +kernel
theorem dX6_beginTick_158 : decode cX6_beginTick 158 = .ok (.return_, 1) := by decide +kernel
theorem dX6_beginTick_159 : decode cX6_beginTick 159 = .ok (.aload_n 0, 1) := by decide +kernel
theorem dX6_beginTick_160 : decode cX6_beginTick 160 = .ok (.invokevirtual 132, 3) := by decide +kernel
theorem dX6_beginTick_163 : decode cX6_beginTick 163 = .ok (.return_, 1) := by decide +kernel
theorem cc_X6_beginTick_X6_lowest : CallC tX6_beginTick tX6_lowest 2 := ⟨by decide +kernel, by decide +kernel, by decide +kernel, by decide, by decide, qw_16, qw_523⟩
theorem cc_X6_beginTick_X1_opposite : CallC tX6_beginTick tX1_opposite 1 := ⟨by decide +kernel, by decide +kernel, by decide +kernel, by decide, by decide, qw_17, qw_533⟩
theorem cc_X6_beginTick_X6_moveOn : CallC tX6_beginTick tX6_moveOn 1 := ⟨by decide +kernel, by decide +kernel, by decide +kernel, by decide, by decide, qw_16, qw_537⟩
theorem cc_X6_beginTick_X6_start : CallC tX6_beginTick tX6_start 1 := ⟨by decide +kernel, by decide +kernel, by decide +kernel, by decide, by decide, qw_16, qw_549⟩
theorem cc_X6_beginTick_X6_readUnderArm : CallC tX6_beginTick tX6_readUnderArm 0 := ⟨by decide +kernel, by decide +kernel, by decide +kernel, by decide, by decide, qw_16, qw_553⟩
def kX6_beginTick : Nat → WOp := cN 80 (cN 37 (cN 19 (cN 10 (cN 1 (cN 0 (cL 0 (o_aload 1 0)) (cL 1 (o_getf 4 5 4))) (cN 4 (cL 4 (o_getf 7 0 3)) (cN 7 (cL 7 (o_if_eq 23 10)) (cL 10 (o_aload 11 0))))) (cN 14 (cN 11 (cL 11 (o_getf 14 5 7)) (cL 14 (o_dup 15))) (cN 15 (cL 15 (o_getf 18 6 5)) (cN 18 (cL 18 (o_push 19 1)) (cL 19 (o_iadd 20)))))) (cN 28 (cN 23 (cN 20 (cL 20 (o_puti 23 6 5)) (cL 23 (o_aload 24 0))) (cN 24 (cL 24 (o_aload 25 0)) (cN 25 (cL 25 (o_getf 28 5 3)) (cL 28 (o_push 29 0))))) (cN 30 (cN 29 (cL 29 (o_iald 30)) (cL 30 (o_aload 31 0))) (cN 31 (cL 31 (o_getf 34 5 4)) (cN 34 (cL 34 (o_getf 37 0 4)) (cL 37 (o_callV 40 5 2 tX6_lowest 0 0))))))) (cN 57 (cN 46 (cN 41 (cN 40 (cL 40 (o_istore 41 1)) (cL 41 (o_iload 42 1))) (cN 42 (cL 42 (o_push 43 (-1))) (cN 43 (cL 43 (o_icmp_ne 91 46)) (cL 46 (o_aload 47 0))))) (cN 50 (cN 47 (cL 47 (o_getf 50 5 5)) (cL 50 (o_getf 53 4 0))) (cN 53 (cL 53 (o_if_le 91 56)) (cN 56 (cL 56 (o_aload 57 0)) (cL 57 (o_getf 60 5 4)))))) (cN 70 (cN 61 (cN 60 (cL 60 (o_aload 61 0)) (cL 61 (o_getf 64 5 4))) (cN 64 (cL 64 (o_getf 67 0 4)) (cN 67 (cL 67 (o_callS 70 1 tX1_opposite 0 0)) (cL 70 (o_puti 73 0 4))))) (cN 75 (cN 73 (cL 73 (o_aload 74 0)) (cN 74 (cL 74 (o_aload 75 0)) (cL 75 (o_getf 78 5 3)))) (cN 78 (cL 78 (o_push 79 0)) (cN 79 (cL 79 (o_iald 80)) (cL 80 (o_aload 81 0)))))))) (cN 120 (cN 100 (cN 91 (cN 84 (cN 81 (cL 81 (o_getf 84 5 4)) (cL 84 (o_getf 87 0 4))) (cN 87 (cL 87 (o_callV 90 5 2 tX6_lowest 0 0)) (cN 90 (cL 90 (o_istore 91 1)) (cL 91 (o_iload 92 1))))) (cN 93 (cN 92 (cL 92 (o_push 93 (-1))) (cL 93 (o_icmp_ne 106 96))) (cN 96 (cL 96 (o_aload 97 0)) (cN 97 (cL 97 (o_getf 100 5 4)) (cL 100 (o_getf 103 0 0)))))) (cN 113 (cN 106 (cN 103 (cL 103 (o_goto 115)) (cL 106 (o_aload 107 0))) (cN 107 (cL 107 (o_getf 110 5 5)) (cN 110 (cL 110 (o_getf 113 4 3)) (cL 113 (o_iload 114 1))))) (cN 115 (cN 114 (cL 114 (o_iald 115)) (cL 115 (o_istore 116 2))) (cN 116 (cL 116 (o_aload 117 0)) (cN 117 (cL 117 (o_getf 120 5 4)) (cL 120 (o_getf 123 0 1))))))) (cN 140 (cN 131 (cN 126 (cN 123 (cL 123 (o_if_eq 132 126)) (cL 126 (o_aload 127 0))) (cN 127 (cL 127 (o_iload 128 2)) (cN 128 (cL 128 (o_callV 131 5 1 tX6_moveOn 0 0)) (cL 131 (o_vret))))) (cN 133 (cN 132 (cL 132 (o_iload 133 2)) (cL 133 (o_aload 134 0))) (cN 134 (cL 134 (o_getf 137 5 4)) (cN 137 (cL 137 (o_getf 140 0 0)) (cL 140 (o_icmp_eq 159 143)))))) (cN 153 (cN 144 (cN 143 (cL 143 (o_aload 144 0)) (cL 144 (o_getf 147 5 4))) (cN 147 (cL 147 (o_getf 150 0 3)) (cN 150 (cL 150 (o_if_ne 159 153)) (cL 153 (o_aload 154 0))))) (cN 158 (cN 154 (cL 154 (o_iload 155 2)) (cN 155 (cL 155 (o_callV 158 5 1 tX6_start 0 0)) (cL 158 (o_vret)))) (cN 159 (cL 159 (o_aload 160 0)) (cN 160 (cL 160 (o_callV 163 5 0 tX6_readUnderArm 0 0)) (cL 163 (o_vret))))))))
theorem sX6_beginTick : ∀ pc, Snd tX6_beginTick G1 pc (kX6_beginTick pc) := s_N (s_N (s_N (s_N (s_N (s_N (s_L (s_aload_n dX6_beginTick_0 rfl)) (s_L (s_getf ok_5 (k := 4) (by decide) dX6_beginTick_1 qw_184))) (s_N (s_L (s_getf ok_0 (k := 3) (by decide) dX6_beginTick_4 qw_63)) (s_N (s_L (s_o_if_eq dX6_beginTick_7 (by decide))) (s_L (s_aload_n dX6_beginTick_10 rfl))))) (s_N (s_N (s_L (s_getf ok_5 (k := 7) (by decide) dX6_beginTick_11 qw_190)) (s_L (s_o_dup dX6_beginTick_14))) (s_N (s_L (s_getf ok_6 (k := 5) (by decide) dX6_beginTick_15 qw_156)) (s_N (s_L (s_iconst dX6_beginTick_18 (by decide +kernel))) (s_L (s_o_iadd dX6_beginTick_19)))))) (s_N (s_N (s_N (s_L (s_puti ok_6 (k := 5) (by decide) rfl (Or.inl rfl) dX6_beginTick_20 qw_156)) (s_L (s_aload_n dX6_beginTick_23 rfl))) (s_N (s_L (s_aload_n dX6_beginTick_24 rfl)) (s_N (s_L (s_getf ok_5 (k := 3) (by decide) dX6_beginTick_25 qw_182)) (s_L (s_iconst dX6_beginTick_28 (by decide +kernel)))))) (s_N (s_N (s_L (s_iald dX6_beginTick_29)) (s_L (s_aload_n dX6_beginTick_30 rfl))) (s_N (s_L (s_getf ok_5 (k := 4) (by decide) dX6_beginTick_31 qw_184)) (s_N (s_L (s_getf ok_0 (k := 4) (by decide) dX6_beginTick_34 qw_66)) (s_L (s_callV (d' := tX6_lowest) (mc := 0) (ms := 0) ok_5 cc_X6_beginTick_X6_lowest qw_520 qw_522 qw_5 dX6_beginTick_37))))))) (s_N (s_N (s_N (s_N (s_L (s_istore_n dX6_beginTick_40 rfl (by decide))) (s_L (s_iload_n dX6_beginTick_41 rfl))) (s_N (s_L (s_iconst dX6_beginTick_42 (by decide +kernel))) (s_N (s_L (s_o_icmp_ne dX6_beginTick_43 (by decide))) (s_L (s_aload_n dX6_beginTick_46 rfl))))) (s_N (s_N (s_L (s_getf ok_5 (k := 5) (by decide) dX6_beginTick_47 qw_186)) (s_L (s_getf ok_4 (k := 0) (by decide) dX6_beginTick_50 qw_88))) (s_N (s_L (s_o_if_le dX6_beginTick_53 (by decide))) (s_N (s_L (s_aload_n dX6_beginTick_56 rfl)) (s_L (s_getf ok_5 (k := 4) (by decide) dX6_beginTick_57 qw_184)))))) (s_N (s_N (s_N (s_L (s_aload_n dX6_beginTick_60 rfl)) (s_L (s_getf ok_5 (k := 4) (by decide) dX6_beginTick_61 qw_184))) (s_N (s_L (s_getf ok_0 (k := 4) (by decide) dX6_beginTick_64 qw_66)) (s_N (s_L (s_callS (d' := tX1_opposite) (mc := 0) (ms := 0) cc_X6_beginTick_X1_opposite qw_531 qw_532 dX6_beginTick_67)) (s_L (s_puti ok_0 (k := 4) (by decide) rfl (Or.inl rfl) dX6_beginTick_70 qw_66))))) (s_N (s_N (s_L (s_aload_n dX6_beginTick_73 rfl)) (s_N (s_L (s_aload_n dX6_beginTick_74 rfl)) (s_L (s_getf ok_5 (k := 3) (by decide) dX6_beginTick_75 qw_182)))) (s_N (s_L (s_iconst dX6_beginTick_78 (by decide +kernel))) (s_N (s_L (s_iald dX6_beginTick_79)) (s_L (s_aload_n dX6_beginTick_80 rfl)))))))) (s_N (s_N (s_N (s_N (s_N (s_L (s_getf ok_5 (k := 4) (by decide) dX6_beginTick_81 qw_184)) (s_L (s_getf ok_0 (k := 4) (by decide) dX6_beginTick_84 qw_66))) (s_N (s_L (s_callV (d' := tX6_lowest) (mc := 0) (ms := 0) ok_5 cc_X6_beginTick_X6_lowest qw_520 qw_522 qw_5 dX6_beginTick_87)) (s_N (s_L (s_istore_n dX6_beginTick_90 rfl (by decide))) (s_L (s_iload_n dX6_beginTick_91 rfl))))) (s_N (s_N (s_L (s_iconst dX6_beginTick_92 (by decide +kernel))) (s_L (s_o_icmp_ne dX6_beginTick_93 (by decide)))) (s_N (s_L (s_aload_n dX6_beginTick_96 rfl)) (s_N (s_L (s_getf ok_5 (k := 4) (by decide) dX6_beginTick_97 qw_184)) (s_L (s_getf ok_0 (k := 0) (by decide) dX6_beginTick_100 qw_54)))))) (s_N (s_N (s_N (s_L (s_o_goto dX6_beginTick_103 (by decide))) (s_L (s_aload_n dX6_beginTick_106 rfl))) (s_N (s_L (s_getf ok_5 (k := 5) (by decide) dX6_beginTick_107 qw_186)) (s_N (s_L (s_getf ok_4 (k := 3) (by decide) dX6_beginTick_110 qw_95)) (s_L (s_iload_n dX6_beginTick_113 rfl))))) (s_N (s_N (s_L (s_iald dX6_beginTick_114)) (s_L (s_istore_n dX6_beginTick_115 rfl (by decide)))) (s_N (s_L (s_aload_n dX6_beginTick_116 rfl)) (s_N (s_L (s_getf ok_5 (k := 4) (by decide) dX6_beginTick_117 qw_184)) (s_L (s_getf ok_0 (k := 1) (by decide) dX6_beginTick_120 qw_57))))))) (s_N (s_N (s_N (s_N (s_L (s_o_if_eq dX6_beginTick_123 (by decide))) (s_L (s_aload_n dX6_beginTick_126 rfl))) (s_N (s_L (s_iload_n dX6_beginTick_127 rfl)) (s_N (s_L (s_callV (d' := tX6_moveOn) (mc := 0) (ms := 0) ok_5 cc_X6_beginTick_X6_moveOn qw_534 qw_536 qw_7 dX6_beginTick_128)) (s_L (s_vret rfl dX6_beginTick_131))))) (s_N (s_N (s_L (s_iload_n dX6_beginTick_132 rfl)) (s_L (s_aload_n dX6_beginTick_133 rfl))) (s_N (s_L (s_getf ok_5 (k := 4) (by decide) dX6_beginTick_134 qw_184)) (s_N (s_L (s_getf ok_0 (k := 0) (by decide) dX6_beginTick_137 qw_54)) (s_L (s_o_icmp_eq dX6_beginTick_140 (by decide))))))) (s_N (s_N (s_N (s_L (s_aload_n dX6_beginTick_143 rfl)) (s_L (s_getf ok_5 (k := 4) (by decide) dX6_beginTick_144 qw_184))) (s_N (s_L (s_getf ok_0 (k := 3) (by decide) dX6_beginTick_147 qw_63)) (s_N (s_L (s_o_if_ne dX6_beginTick_150 (by decide))) (s_L (s_aload_n dX6_beginTick_153 rfl))))) (s_N (s_N (s_L (s_iload_n dX6_beginTick_154 rfl)) (s_N (s_L (s_callV (d' := tX6_start) (mc := 0) (ms := 0) ok_5 cc_X6_beginTick_X6_start qw_546 qw_548 qw_8 dX6_beginTick_155)) (s_L (s_vret rfl dX6_beginTick_158)))) (s_N (s_L (s_aload_n dX6_beginTick_159 rfl)) (s_N (s_L (s_callV (d' := tX6_readUnderArm) (mc := 0) (ms := 0) ok_5 cc_X6_beginTick_X6_readUnderArm qw_550 qw_552 qw_9 dX6_beginTick_160)) (s_L (s_vret rfl dX6_beginTick_163))))))))
/-! PlateArm$State.endTick -/
theorem dX6_endTick_0 : decode cX6_endTick 0 = .ok (.aload_n 0, 1) := by decide +kernel
theorem dX6_endTick_1 : decode cX6_endTick 1 = .ok (.getfield 18, 3) := by decide +kernel
theorem dX6_endTick_4 : decode cX6_endTick 4 = .ok (.iconst 3, 1) := by decide +kernel
theorem dX6_endTick_5 : decode cX6_endTick 5 = .ok (.iaload, 1) := by decide +kernel
theorem dX6_endTick_6 : decode cX6_endTick 6 = .ok (.ifCond .eq 7, 3) := by decide +kernel
theorem dX6_endTick_9 : decode cX6_endTick 9 = .ok (.aload_n 0, 1) := by decide +kernel
theorem dX6_endTick_10 : decode cX6_endTick 10 = .ok (.invokevirtual 135, 3) := by decide +kernel
theorem dX6_endTick_13 : decode cX6_endTick 13 = .ok (.aload_n 0, 1) := by decide +kernel
theorem dX6_endTick_14 : decode cX6_endTick 14 = .ok (.getfield 25, 3) := by decide +kernel
theorem dX6_endTick_17 : decode cX6_endTick 17 = .ok (.aload_n 0, 1) := by decide +kernel
theorem dX6_endTick_18 : decode cX6_endTick 18 = .ok (.getfield 18, 3) := by decide +kernel
theorem dX6_endTick_21 : decode cX6_endTick 21 = .ok (.iconst 2, 1) := by decide +kernel
theorem dX6_endTick_22 : decode cX6_endTick 22 = .ok (.iaload, 1) := by decide +kernel
theorem dX6_endTick_23 : decode cX6_endTick 23 = .ok (.invokevirtual 138, 3) := by decide +kernel
theorem dX6_endTick_26 : decode cX6_endTick 26 = .ok (.aload_n 0, 1) := by decide +kernel
theorem dX6_endTick_27 : decode cX6_endTick 27 = .ok (.getfield 46, 3) := by decide +kernel
theorem dX6_endTick_30 : decode cX6_endTick 30 = .ok (.aload_n 0, 1) := by decide +kernel
theorem dX6_endTick_31 : decode cX6_endTick 31 = .ok (.getfield 46, 3) := by decide +kernel
theorem dX6_endTick_34 : decode cX6_endTick 34 = .ok (.getfield 141, 3) := by decide +kernel
theorem dX6_endTick_37 : decode cX6_endTick 37 = .ok (.aload_n 0, 1) := by decide +kernel
theorem dX6_endTick_38 : decode cX6_endTick 38 = .ok (.getfield 25, 3) := by decide +kernel
theorem dX6_endTick_41 : decode cX6_endTick 41 = .ok (.getfield 144, 3) := by decide +kernel
theorem dX6_endTick_44 : decode cX6_endTick 44 = .ok (.invokestatic 147, 3) := by decide +kernel
theorem dX6_endTick_47 : decode cX6_endTick 47 = .ok (.putfield 141, 3) := by decide +kernel
theorem dX6_endTick_50 : decode cX6_endTick 50 = .ok (.aload_n 0, 1) := by decide +kernel
theorem dX6_endTick_51 : decode cX6_endTick 51 = .ok (.dup, 1) := by decide +kernel
theorem dX6_endTick_52 : decode cX6_endTick 52 = .ok (.getfield 50, 3) := by decide +kernel
theorem dX6_endTick_55 : decode cX6_endTick 55 = .ok (.iconst 1, 1) := by decide +kernel
theorem dX6_endTick_56 : decode cX6_endTick 56 = .ok (.iadd, 1) := by decide +kernel
theorem dX6_endTick_57 : decode cX6_endTick 57 = .ok (.putfield 50, 3) := by decide +kernel
theorem dX6_endTick_60 : decode cX6_endTick 60 = .ok (.return_, 1) := by decide +kernel
theorem cc_X6_endTick_X6_giveUp : CallC tX6_endTick tX6_giveUp 0 := ⟨by decide +kernel, by decide +kernel, by decide +kernel, by decide, by decide, qw_16, qw_570⟩
theorem cc_X6_endTick_X1_cool : CallC tX6_endTick tX1_cool 1 := ⟨by decide +kernel, by decide +kernel, by decide +kernel, by decide, by decide, qw_17, qw_574⟩
def kX6_endTick : Nat → WOp := cN 26 (cN 10 (cN 4 (cN 0 (cL 0 (o_aload 1 0)) (cN 1 (cL 1 (o_getf 4 5 3)) (cL 4 (o_push 5 3)))) (cN 6 (cN 5 (cL 5 (o_iald 6)) (cL 6 (o_if_eq 13 9))) (cN 9 (cL 9 (o_aload 10 0)) (cL 10 (o_callV 13 5 0 tX6_giveUp 0 0))))) (cN 18 (cN 14 (cN 13 (cL 13 (o_aload 14 0)) (cL 14 (o_getf 17 5 4))) (cN 17 (cL 17 (o_aload 18 0)) (cL 18 (o_getf 21 5 3)))) (cN 22 (cN 21 (cL 21 (o_push 22 2)) (cL 22 (o_iald 23))) (cN 23 (cL 23 (o_callV 26 0 1 tX1_cool 0 0)) (cL 26 (o_aload 27 0)))))) (cN 44 (cN 34 (cN 30 (cN 27 (cL 27 (o_getf 30 5 7)) (cL 30 (o_aload 31 0))) (cN 31 (cL 31 (o_getf 34 5 7)) (cL 34 (o_getf 37 6 6)))) (cN 38 (cN 37 (cL 37 (o_aload 38 0)) (cL 38 (o_getf 41 5 4))) (cN 41 (cL 41 (o_getf 44 0 2)) (cL 44 (o_mmax 47))))) (cN 52 (cN 50 (cN 47 (cL 47 (o_puti 50 6 6)) (cL 50 (o_aload 51 0))) (cN 51 (cL 51 (o_dup 52)) (cL 52 (o_getf 55 5 2)))) (cN 56 (cN 55 (cL 55 (o_push 56 1)) (cL 56 (o_iadd 57))) (cN 57 (cL 57 (o_puti 60 5 2)) (cL 60 (o_vret))))))
theorem sX6_endTick : ∀ pc, Snd tX6_endTick G1 pc (kX6_endTick pc) := s_N (s_N (s_N (s_N (s_L (s_aload_n dX6_endTick_0 rfl)) (s_N (s_L (s_getf ok_5 (k := 3) (by decide) dX6_endTick_1 qw_182)) (s_L (s_iconst dX6_endTick_4 (by decide +kernel))))) (s_N (s_N (s_L (s_iald dX6_endTick_5)) (s_L (s_o_if_eq dX6_endTick_6 (by decide)))) (s_N (s_L (s_aload_n dX6_endTick_9 rfl)) (s_L (s_callV (d' := tX6_giveUp) (mc := 0) (ms := 0) ok_5 cc_X6_endTick_X6_giveUp qw_567 qw_569 qw_11 dX6_endTick_10))))) (s_N (s_N (s_N (s_L (s_aload_n dX6_endTick_13 rfl)) (s_L (s_getf ok_5 (k := 4) (by decide) dX6_endTick_14 qw_184))) (s_N (s_L (s_aload_n dX6_endTick_17 rfl)) (s_L (s_getf ok_5 (k := 3) (by decide) dX6_endTick_18 qw_182)))) (s_N (s_N (s_L (s_iconst dX6_endTick_21 (by decide +kernel))) (s_L (s_iald dX6_endTick_22))) (s_N (s_L (s_callV (d' := tX1_cool) (mc := 0) (ms := 0) ok_0 cc_X6_endTick_X1_cool qw_571 qw_572 qw_573 dX6_endTick_23)) (s_L (s_aload_n dX6_endTick_26 rfl)))))) (s_N (s_N (s_N (s_N (s_L (s_getf ok_5 (k := 7) (by decide) dX6_endTick_27 qw_190)) (s_L (s_aload_n dX6_endTick_30 rfl))) (s_N (s_L (s_getf ok_5 (k := 7) (by decide) dX6_endTick_31 qw_190)) (s_L (s_getf ok_6 (k := 6) (by decide) dX6_endTick_34 qw_159)))) (s_N (s_N (s_L (s_aload_n dX6_endTick_37 rfl)) (s_L (s_getf ok_5 (k := 4) (by decide) dX6_endTick_38 qw_184))) (s_N (s_L (s_getf ok_0 (k := 2) (by decide) dX6_endTick_41 qw_60)) (s_L (s_mmax qw_575 qw_576 qw_30 qw_577 (by decide) (by decide) dX6_endTick_44))))) (s_N (s_N (s_N (s_L (s_puti ok_6 (k := 6) (by decide) rfl (Or.inl rfl) dX6_endTick_47 qw_159)) (s_L (s_aload_n dX6_endTick_50 rfl))) (s_N (s_L (s_o_dup dX6_endTick_51)) (s_L (s_getf ok_5 (k := 2) (by decide) dX6_endTick_52 qw_180)))) (s_N (s_N (s_L (s_iconst dX6_endTick_55 (by decide +kernel))) (s_L (s_o_iadd dX6_endTick_56))) (s_N (s_L (s_puti ok_5 (k := 2) (by decide) rfl (Or.inl rfl) dX6_endTick_57 qw_180)) (s_L (s_vret rfl dX6_endTick_60))))))
/-! PlateArm$State.lowest -/
theorem dX6_lowest_0 : decode cX6_lowest 0 = .ok (.iconst (-1), 1) := by decide +kernel
theorem dX6_lowest_1 : decode cX6_lowest 1 = .ok (.istore_n 3, 1) := by decide +kernel
theorem dX6_lowest_2 : decode cX6_lowest 2 = .ok (.iconst 0, 1) := by decide +kernel
theorem dX6_lowest_3 : decode cX6_lowest 3 = .ok (.istore 4, 2) := by decide +kernel
theorem dX6_lowest_5 : decode cX6_lowest 5 = .ok (.iconst 0, 1) := by decide +kernel
theorem dX6_lowest_6 : decode cX6_lowest 6 = .ok (.istore 5, 2) := by decide +kernel
theorem dX6_lowest_8 : decode cX6_lowest 8 = .ok (.iload 5, 2) := by decide +kernel
theorem dX6_lowest_10 : decode cX6_lowest 10 = .ok (.aload_n 0, 1) := by decide +kernel
theorem dX6_lowest_11 : decode cX6_lowest 11 = .ok (.getfield 32, 3) := by decide +kernel
theorem dX6_lowest_14 : decode cX6_lowest 14 = .ok (.getfield 84, 3) := by decide +kernel
theorem dX6_lowest_17 : decode cX6_lowest 17 = .ok (.if_icmp .ge 43, 3) := by decide +kernel
theorem dX6_lowest_20 : decode cX6_lowest 20 = .ok (.aload_n 0, 1) := by decide +kernel
theorem dX6_lowest_21 : decode cX6_lowest 21 = .ok (.iload 5, 2) := by decide +kernel
theorem dX6_lowest_23 : decode cX6_lowest 23 = .ok (.iload_n 1, 1) := by decide +kernel
theorem dX6_lowest_24 : decode cX6_lowest 24 = .ok (.iload_n 2, 1) := by decide +kernel
theorem dX6_lowest_25 : decode cX6_lowest 25 = .ok (.invokevirtual 152, 3) := by decide +kernel
theorem dX6_lowest_28 : decode cX6_lowest 28 = .ok (.istore 6, 2) := by decide +kernel
theorem dX6_lowest_30 : decode cX6_lowest 30 = .ok (.iload 6, 2) := by decide +kernel
theorem dX6_lowest_32 : decode cX6_lowest 32 = .ok (.ifCond .lt 22, 3) := by decide +kernel
theorem dX6_lowest_35 : decode cX6_lowest 35 = .ok (.iload_n 3, 1) := by decide +kernel
theorem dX6_lowest_36 : decode cX6_lowest 36 = .ok (.iconst (-1), 1) := by decide +kernel
theorem dX6_lowest_37 : decode cX6_lowest 37 = .ok (.if_icmp .eq 10, 3) := by decide +kernel
theorem dX6_lowest_40 : decode cX6_lowest 40 = .ok (.iload 6, 2) := by decide +kernel
theorem dX6_lowest_42 : decode cX6_lowest 42 = .ok (.iload 4, 2) := by decide +kernel
theorem dX6_lowest_44 : decode cX6_lowest 44 = .ok (.if_icmp .ge 10, 3) := by decide +kernel
theorem dX6_lowest_47 : decode cX6_lowest 47 = .ok (.iload 5, 2) := by decide +kernel
theorem dX6_lowest_49 : decode cX6_lowest 49 = .ok (.istore_n 3, 1) := by decide +kernel
theorem dX6_lowest_50 : decode cX6_lowest 50 = .ok (.iload 6, 2) := by decide +kernel
theorem dX6_lowest_52 : decode cX6_lowest 52 = .ok (.istore 4, 2) := by decide +kernel
theorem dX6_lowest_54 : decode cX6_lowest 54 = .ok (.iinc 5 1, 3) := by decide +kernel
theorem dX6_lowest_57 : decode cX6_lowest 57 = .ok (.goto (-49), 3) := by decide +kernel
theorem dX6_lowest_60 : decode cX6_lowest 60 = .ok (.iload_n 3, 1) := by decide +kernel
theorem dX6_lowest_61 : decode cX6_lowest 61 = .ok (.ireturn, 1) := by decide +kernel
theorem cc_X6_lowest_X6_rankOf : CallC tX6_lowest tX6_rankOf 3 := ⟨by decide +kernel, by decide +kernel, by decide +kernel, by decide, by decide, qw_16, qw_527⟩
def kX6_lowest : Nat → WOp := cN 25 (cN 10 (cN 3 (cN 1 (cN 0 (cL 0 (o_push 1 (-1))) (cL 1 (o_istore 2 3))) (cN 2 (cL 2 (o_push 3 0)) (cL 3 (o_istore 5 4)))) (cN 6 (cN 5 (cL 5 (o_push 6 0)) (cL 6 (o_istore 8 5))) (cN 8 (cL 8 (o_iload 10 5)) (cL 10 (o_aload 11 0))))) (cN 20 (cN 14 (cN 11 (cL 11 (o_getf 14 5 5)) (cL 14 (o_getf 17 4 0))) (cN 17 (cL 17 (o_icmp_ge 60 20)) (cL 20 (o_aload 21 0)))) (cN 23 (cN 21 (cL 21 (o_iload 23 5)) (cL 23 (o_iload 24 1))) (cN 24 (cL 24 (o_iload 25 2)) (cL 25 (o_callV 28 5 3 tX6_rankOf 0 0)))))) (cN 42 (cN 35 (cN 30 (cN 28 (cL 28 (o_istore 30 6)) (cL 30 (o_iload 32 6))) (cN 32 (cL 32 (o_if_lt 54 35)) (cL 35 (o_iload 36 3)))) (cN 37 (cN 36 (cL 36 (o_push 37 (-1))) (cL 37 (o_icmp_eq 47 40))) (cN 40 (cL 40 (o_iload 42 6)) (cL 42 (o_iload 44 4))))) (cN 50 (cN 47 (cN 44 (cL 44 (o_icmp_ge 54 47)) (cL 47 (o_iload 49 5))) (cN 49 (cL 49 (o_istore 50 3)) (cL 50 (o_iload 52 6)))) (cN 54 (cN 52 (cL 52 (o_istore 54 4)) (cL 54 (o_iinc 57 5 1))) (cN 57 (cL 57 (o_goto 8)) (cN 60 (cL 60 (o_iload 61 3)) (cL 61 (o_iret)))))))
theorem sX6_lowest : ∀ pc, Snd tX6_lowest G1 pc (kX6_lowest pc) := s_N (s_N (s_N (s_N (s_N (s_L (s_iconst dX6_lowest_0 (by decide +kernel))) (s_L (s_istore_n dX6_lowest_1 rfl (by decide)))) (s_N (s_L (s_iconst dX6_lowest_2 (by decide +kernel))) (s_L (s_istore dX6_lowest_3 (by decide))))) (s_N (s_N (s_L (s_iconst dX6_lowest_5 (by decide +kernel))) (s_L (s_istore dX6_lowest_6 (by decide)))) (s_N (s_L (s_iload dX6_lowest_8)) (s_L (s_aload_n dX6_lowest_10 rfl))))) (s_N (s_N (s_N (s_L (s_getf ok_5 (k := 5) (by decide) dX6_lowest_11 qw_186)) (s_L (s_getf ok_4 (k := 0) (by decide) dX6_lowest_14 qw_88))) (s_N (s_L (s_o_icmp_ge dX6_lowest_17 (by decide))) (s_L (s_aload_n dX6_lowest_20 rfl)))) (s_N (s_N (s_L (s_iload dX6_lowest_21)) (s_L (s_iload_n dX6_lowest_23 rfl))) (s_N (s_L (s_iload_n dX6_lowest_24 rfl)) (s_L (s_callV (d' := tX6_rankOf) (mc := 0) (ms := 0) ok_5 cc_X6_lowest_X6_rankOf qw_524 qw_526 qw_6 dX6_lowest_25)))))) (s_N (s_N (s_N (s_N (s_L (s_istore dX6_lowest_28 (by decide))) (s_L (s_iload dX6_lowest_30))) (s_N (s_L (s_o_if_lt dX6_lowest_32 (by decide))) (s_L (s_iload_n dX6_lowest_35 rfl)))) (s_N (s_N (s_L (s_iconst dX6_lowest_36 (by decide +kernel))) (s_L (s_o_icmp_eq dX6_lowest_37 (by decide)))) (s_N (s_L (s_iload dX6_lowest_40)) (s_L (s_iload dX6_lowest_42))))) (s_N (s_N (s_N (s_L (s_o_icmp_ge dX6_lowest_44 (by decide))) (s_L (s_iload dX6_lowest_47))) (s_N (s_L (s_istore_n dX6_lowest_49 rfl (by decide))) (s_L (s_iload dX6_lowest_50)))) (s_N (s_N (s_L (s_istore dX6_lowest_52 (by decide))) (s_L (s_iinc (v := 1) dX6_lowest_54 (by decide +kernel) (by decide)))) (s_N (s_L (s_o_goto dX6_lowest_57 (by decide))) (s_N (s_L (s_iload_n dX6_lowest_60 rfl)) (s_L (s_iret rfl dX6_lowest_61)))))))
/-! PlateArm$State.rankOf -/
theorem dX6_rankOf_0 : decode cX6_rankOf 0 = .ok (.aload_n 0, 1) := by decide +kernel
theorem dX6_rankOf_1 : decode cX6_rankOf 1 = .ok (.getfield 32, 3) := by decide +kernel
theorem dX6_rankOf_4 : decode cX6_rankOf 4 = .ok (.getfield 104, 3) := by decide +kernel
theorem dX6_rankOf_7 : decode cX6_rankOf 7 = .ok (.iload_n 1, 1) := by decide +kernel
theorem dX6_rankOf_8 : decode cX6_rankOf 8 = .ok (.iaload, 1) := by decide +kernel
theorem dX6_rankOf_9 : decode cX6_rankOf 9 = .ok (.aload_n 0, 1) := by decide +kernel
theorem dX6_rankOf_10 : decode cX6_rankOf 10 = .ok (.getfield 25, 3) := by decide +kernel
theorem dX6_rankOf_13 : decode cX6_rankOf 13 = .ok (.getfield 106, 3) := by decide +kernel
theorem dX6_rankOf_16 : decode cX6_rankOf 16 = .ok (.isub, 1) := by decide +kernel
theorem dX6_rankOf_17 : decode cX6_rankOf 17 = .ok (.istore 4, 2) := by decide +kernel
theorem dX6_rankOf_19 : decode cX6_rankOf 19 = .ok (.iload_n 2, 1) := by decide +kernel
theorem dX6_rankOf_20 : decode cX6_rankOf 20 = .ok (.tableswitch 58 1 3 #[28, 42, 48], 28) := by decide +kernel
theorem dX6_rankOf_48 : decode cX6_rankOf 48 = .ok (.iload_n 3, 1) := by decide +kernel
theorem dX6_rankOf_49 : decode cX6_rankOf 49 = .ok (.iconst 1, 1) := by decide +kernel
theorem dX6_rankOf_50 : decode cX6_rankOf 50 = .ok (.if_icmp .ne 8, 3) := by decide +kernel
theorem dX6_rankOf_53 : decode cX6_rankOf 53 = .ok (.iload 4, 2) := by decide +kernel
theorem dX6_rankOf_55 : decode cX6_rankOf 55 = .ok (.goto 6, 3) := by decide +kernel
theorem dX6_rankOf_58 : decode cX6_rankOf 58 = .ok (.iload 4, 2) := by decide +kernel
theorem dX6_rankOf_60 : decode cX6_rankOf 60 = .ok (.ineg, 1) := by decide +kernel
theorem dX6_rankOf_61 : decode cX6_rankOf 61 = .ok (.ireturn, 1) := by decide +kernel
theorem dX6_rankOf_62 : decode cX6_rankOf 62 = .ok (.iload 4, 2) := by decide +kernel
theorem dX6_rankOf_64 : decode cX6_rankOf 64 = .ok (.invokestatic 156, 3) := by decide +kernel
theorem dX6_rankOf_67 : decode cX6_rankOf 67 = .ok (.ireturn, 1) := by decide +kernel
theorem dX6_rankOf_68 : decode cX6_rankOf 68 = .ok (.aload_n 0, 1) := by decide +kernel
theorem dX6_rankOf_69 : decode cX6_rankOf 69 = .ok (.getfield 32, 3) := by decide +kernel
theorem dX6_rankOf_72 : decode cX6_rankOf 72 = .ok (.getfield 159, 3) := by decide +kernel
theorem dX6_rankOf_75 : decode cX6_rankOf 75 = .ok (.iload_n 1, 1) := by decide +kernel
theorem dX6_rankOf_76 : decode cX6_rankOf 76 = .ok (.iaload, 1) := by decide +kernel
theorem dX6_rankOf_77 : decode cX6_rankOf 77 = .ok (.ireturn, 1) := by decide +kernel
theorem dX6_rankOf_78 : decode cX6_rankOf 78 = .ok (.aload_n 0, 1) := by decide +kernel
theorem dX6_rankOf_79 : decode cX6_rankOf 79 = .ok (.getfield 32, 3) := by decide +kernel
theorem dX6_rankOf_82 : decode cX6_rankOf 82 = .ok (.getfield 162, 3) := by decide +kernel
theorem dX6_rankOf_85 : decode cX6_rankOf 85 = .ok (.iload_n 1, 1) := by decide +kernel
theorem dX6_rankOf_86 : decode cX6_rankOf 86 = .ok (.iaload, 1) := by decide +kernel
theorem dX6_rankOf_87 : decode cX6_rankOf 87 = .ok (.ireturn, 1) := by decide +kernel
def kX6_rankOf : Nat → WOp := cN 55 (cN 13 (cN 7 (cN 1 (cN 0 (cL 0 (o_aload 1 0)) (cL 1 (o_getf 4 5 5))) (cN 4 (cL 4 (o_getf 7 4 3)) (cL 7 (o_iload 8 1)))) (cN 9 (cN 8 (cL 8 (o_iald 9)) (cL 9 (o_aload 10 0))) (cN 10 (cL 10 (o_getf 13 5 4)) (cL 13 (o_getf 16 0 0))))) (cN 20 (cN 17 (cN 16 (cL 16 (o_isub 17)) (cL 17 (o_istore 19 4))) (cN 19 (cL 19 (o_iload 20 2)) (cL 20 (o_tsw 1 [48, 62, 68] 78)))) (cN 49 (cN 48 (cL 48 (o_iload 49 3)) (cL 49 (o_push 50 1))) (cN 50 (cL 50 (o_icmp_ne 58 53)) (cN 53 (cL 53 (o_iload 55 4)) (cL 55 (o_goto 61))))))) (cN 72 (cN 62 (cN 60 (cN 58 (cL 58 (o_iload 60 4)) (cL 60 (o_ineg 61))) (cN 61 (cL 61 (o_iret)) (cL 62 (o_iload 64 4)))) (cN 67 (cN 64 (cL 64 (o_mabs 67)) (cL 67 (o_iret))) (cN 68 (cL 68 (o_aload 69 0)) (cN 69 (cL 69 (o_getf 72 5 5)) (cL 72 (o_getf 75 4 5)))))) (cN 78 (cN 76 (cN 75 (cL 75 (o_iload 76 1)) (cL 76 (o_iald 77))) (cN 77 (cL 77 (o_iret)) (cL 78 (o_aload 79 0)))) (cN 82 (cN 79 (cL 79 (o_getf 82 5 5)) (cL 82 (o_getf 85 4 2))) (cN 85 (cL 85 (o_iload 86 1)) (cN 86 (cL 86 (o_iald 87)) (cL 87 (o_iret)))))))
theorem sX6_rankOf : ∀ pc, Snd tX6_rankOf G1 pc (kX6_rankOf pc) := s_N (s_N (s_N (s_N (s_N (s_L (s_aload_n dX6_rankOf_0 rfl)) (s_L (s_getf ok_5 (k := 5) (by decide) dX6_rankOf_1 qw_186))) (s_N (s_L (s_getf ok_4 (k := 3) (by decide) dX6_rankOf_4 qw_95)) (s_L (s_iload_n dX6_rankOf_7 rfl)))) (s_N (s_N (s_L (s_iald dX6_rankOf_8)) (s_L (s_aload_n dX6_rankOf_9 rfl))) (s_N (s_L (s_getf ok_5 (k := 4) (by decide) dX6_rankOf_10 qw_184)) (s_L (s_getf ok_0 (k := 0) (by decide) dX6_rankOf_13 qw_54))))) (s_N (s_N (s_N (s_L (s_o_isub dX6_rankOf_16)) (s_L (s_istore dX6_rankOf_17 (by decide)))) (s_N (s_L (s_iload_n dX6_rankOf_19 rfl)) (s_L (s_tsw dX6_rankOf_20 (by decide +kernel) (by decide) (by decide) (by decide) (by intro k t h; match k, h with | 0, h => exact ⟨28, rfl, by cases h; decide⟩ | 1, h => exact ⟨42, rfl, by cases h; decide⟩ | 2, h => exact ⟨48, rfl, by cases h; decide⟩ | k + 3, h => simp at h) (by decide))))) (s_N (s_N (s_L (s_iload_n dX6_rankOf_48 rfl)) (s_L (s_iconst dX6_rankOf_49 (by decide +kernel)))) (s_N (s_L (s_o_icmp_ne dX6_rankOf_50 (by decide))) (s_N (s_L (s_iload dX6_rankOf_53)) (s_L (s_o_goto dX6_rankOf_55 (by decide)))))))) (s_N (s_N (s_N (s_N (s_L (s_iload dX6_rankOf_58)) (s_L (s_o_ineg dX6_rankOf_60))) (s_N (s_L (s_iret rfl dX6_rankOf_61)) (s_L (s_iload dX6_rankOf_62)))) (s_N (s_N (s_L (s_mabs qw_528 qw_529 qw_30 qw_530 (by decide) (by decide) dX6_rankOf_64)) (s_L (s_iret rfl dX6_rankOf_67))) (s_N (s_L (s_aload_n dX6_rankOf_68 rfl)) (s_N (s_L (s_getf ok_5 (k := 5) (by decide) dX6_rankOf_69 qw_186)) (s_L (s_getf ok_4 (k := 5) (by decide) dX6_rankOf_72 qw_101)))))) (s_N (s_N (s_N (s_L (s_iload_n dX6_rankOf_75 rfl)) (s_L (s_iald dX6_rankOf_76))) (s_N (s_L (s_iret rfl dX6_rankOf_77)) (s_L (s_aload_n dX6_rankOf_78 rfl)))) (s_N (s_N (s_L (s_getf ok_5 (k := 5) (by decide) dX6_rankOf_79 qw_186)) (s_L (s_getf ok_4 (k := 2) (by decide) dX6_rankOf_82 qw_93))) (s_N (s_L (s_iload_n dX6_rankOf_85 rfl)) (s_N (s_L (s_iald dX6_rankOf_86)) (s_L (s_iret rfl dX6_rankOf_87)))))))
/-! PlateArm$State.start -/
theorem dX6_start_0 : decode cX6_start 0 = .ok (.aload_n 0, 1) := by decide +kernel
theorem dX6_start_1 : decode cX6_start 1 = .ok (.getfield 25, 3) := by decide +kernel
theorem dX6_start_4 : decode cX6_start 4 = .ok (.iload_n 1, 1) := by decide +kernel
theorem dX6_start_5 : decode cX6_start 5 = .ok (.aload_n 0, 1) := by decide +kernel
theorem dX6_start_6 : decode cX6_start 6 = .ok (.getfield 25, 3) := by decide +kernel
theorem dX6_start_9 : decode cX6_start 9 = .ok (.getfield 106, 3) := by decide +kernel
theorem dX6_start_12 : decode cX6_start 12 = .ok (.if_icmp .le 7, 3) := by decide +kernel
theorem dX6_start_15 : decode cX6_start 15 = .ok (.iconst 1, 1) := by decide +kernel
theorem dX6_start_16 : decode cX6_start 16 = .ok (.goto 4, 3) := by decide +kernel
theorem dX6_start_19 : decode cX6_start 19 = .ok (.iconst 2, 1) := by decide +kernel
theorem dX6_start_20 : decode cX6_start 20 = .ok (.putfield 101, 3) := by decide +kernel
theorem dX6_start_23 : decode cX6_start 23 = .ok (.aload_n 0, 1) := by decide +kernel
theorem dX6_start_24 : decode cX6_start 24 = .ok (.getfield 25, 3) := by decide +kernel
theorem dX6_start_27 : decode cX6_start 27 = .ok (.invokevirtual 165, 3) := by decide +kernel
theorem dX6_start_30 : decode cX6_start 30 = .ok (.aload_n 0, 1) := by decide +kernel
theorem dX6_start_31 : decode cX6_start 31 = .ok (.getfield 25, 3) := by decide +kernel
theorem dX6_start_34 : decode cX6_start 34 = .ok (.dup, 1) := by decide +kernel
theorem dX6_start_35 : decode cX6_start 35 = .ok (.getfield 144, 3) := by decide +kernel
theorem dX6_start_38 : decode cX6_start 38 = .ok (.iconst 2, 1) := by decide +kernel
theorem dX6_start_39 : decode cX6_start 39 = .ok (.iadd, 1) := by decide +kernel
theorem dX6_start_40 : decode cX6_start 40 = .ok (.putfield 144, 3) := by decide +kernel
theorem dX6_start_43 : decode cX6_start 43 = .ok (.aload_n 0, 1) := by decide +kernel
theorem dX6_start_44 : decode cX6_start 44 = .ok (.getfield 46, 3) := by decide +kernel
theorem dX6_start_47 : decode cX6_start 47 = .ok (.dup, 1) := by decide +kernel
theorem dX6_start_48 : decode cX6_start 48 = .ok (.getfield 168, 3) := by decide +kernel
theorem dX6_start_51 : decode cX6_start 51 = .ok (.iconst 1, 1) := by decide +kernel
theorem dX6_start_52 : decode cX6_start 52 = .ok (.iadd, 1) := by decide +kernel
theorem dX6_start_53 : decode cX6_start 53 = .ok (.putfield 168, 3) := by decide +kernel
theorem dX6_start_56 : decode cX6_start 56 = .ok (.aload_n 0, 1) := by decide +kernel
theorem dX6_start_57 : decode cX6_start 57 = .ok (.getfield 46, 3) := by decide +kernel
theorem dX6_start_60 : decode cX6_start 60 = .ok (.dup, 1) := by decide +kernel
theorem dX6_start_61 : decode cX6_start 61 = .ok (.getfield 171, 3) := by decide +kernel
theorem dX6_start_64 : decode cX6_start 64 = .ok (.iconst 1, 1) := by decide +kernel
theorem dX6_start_65 : decode cX6_start 65 = .ok (.iadd, 1) := by decide +kernel
theorem dX6_start_66 : decode cX6_start 66 = .ok (.putfield 171, 3) := by decide +kernel
theorem dX6_start_69 : decode cX6_start 69 = .ok (.return_, 1) := by decide +kernel
theorem cc_X6_start_X1_step : CallC tX6_start tX1_step 0 := ⟨by decide +kernel, by decide +kernel, by decide +kernel, by decide, by decide, qw_17, qw_545⟩
def kX6_start : Nat → WOp := cN 35 (cN 16 (cN 5 (cN 1 (cN 0 (cL 0 (o_aload 1 0)) (cL 1 (o_getf 4 5 4))) (cN 4 (cL 4 (o_iload 5 1)) (cL 5 (o_aload 6 0)))) (cN 9 (cN 6 (cL 6 (o_getf 9 5 4)) (cL 9 (o_getf 12 0 0))) (cN 12 (cL 12 (o_icmp_le 19 15)) (cN 15 (cL 15 (o_push 16 1)) (cL 16 (o_goto 20)))))) (cN 24 (cN 20 (cN 19 (cL 19 (o_push 20 2)) (cL 20 (o_puti 23 0 1))) (cN 23 (cL 23 (o_aload 24 0)) (cL 24 (o_getf 27 5 4)))) (cN 30 (cN 27 (cL 27 (o_callV 30 0 0 tX1_step 0 0)) (cL 30 (o_aload 31 0))) (cN 31 (cL 31 (o_getf 34 5 4)) (cN 34 (cL 34 (o_dup 35)) (cL 35 (o_getf 38 0 2))))))) (cN 52 (cN 43 (cN 39 (cN 38 (cL 38 (o_push 39 2)) (cL 39 (o_iadd 40))) (cN 40 (cL 40 (o_puti 43 0 2)) (cL 43 (o_aload 44 0)))) (cN 47 (cN 44 (cL 44 (o_getf 47 5 7)) (cL 47 (o_dup 48))) (cN 48 (cL 48 (o_getf 51 6 3)) (cN 51 (cL 51 (o_push 52 1)) (cL 52 (o_iadd 53)))))) (cN 60 (cN 56 (cN 53 (cL 53 (o_puti 56 6 3)) (cL 56 (o_aload 57 0))) (cN 57 (cL 57 (o_getf 60 5 7)) (cL 60 (o_dup 61)))) (cN 64 (cN 61 (cL 61 (o_getf 64 6 2)) (cL 64 (o_push 65 1))) (cN 65 (cL 65 (o_iadd 66)) (cN 66 (cL 66 (o_puti 69 6 2)) (cL 69 (o_vret)))))))
theorem sX6_start : ∀ pc, Snd tX6_start G1 pc (kX6_start pc) := s_N (s_N (s_N (s_N (s_N (s_L (s_aload_n dX6_start_0 rfl)) (s_L (s_getf ok_5 (k := 4) (by decide) dX6_start_1 qw_184))) (s_N (s_L (s_iload_n dX6_start_4 rfl)) (s_L (s_aload_n dX6_start_5 rfl)))) (s_N (s_N (s_L (s_getf ok_5 (k := 4) (by decide) dX6_start_6 qw_184)) (s_L (s_getf ok_0 (k := 0) (by decide) dX6_start_9 qw_54))) (s_N (s_L (s_o_icmp_le dX6_start_12 (by decide))) (s_N (s_L (s_iconst dX6_start_15 (by decide +kernel))) (s_L (s_o_goto dX6_start_16 (by decide))))))) (s_N (s_N (s_N (s_L (s_iconst dX6_start_19 (by decide +kernel))) (s_L (s_puti ok_0 (k := 1) (by decide) rfl (Or.inl rfl) dX6_start_20 qw_57))) (s_N (s_L (s_aload_n dX6_start_23 rfl)) (s_L (s_getf ok_5 (k := 4) (by decide) dX6_start_24 qw_184)))) (s_N (s_N (s_L (s_callV (d' := tX1_step) (mc := 0) (ms := 0) ok_0 cc_X6_start_X1_step qw_542 qw_543 qw_544 dX6_start_27)) (s_L (s_aload_n dX6_start_30 rfl))) (s_N (s_L (s_getf ok_5 (k := 4) (by decide) dX6_start_31 qw_184)) (s_N (s_L (s_o_dup dX6_start_34)) (s_L (s_getf ok_0 (k := 2) (by decide) dX6_start_35 qw_60))))))) (s_N (s_N (s_N (s_N (s_L (s_iconst dX6_start_38 (by decide +kernel))) (s_L (s_o_iadd dX6_start_39))) (s_N (s_L (s_puti ok_0 (k := 2) (by decide) rfl (Or.inl rfl) dX6_start_40 qw_60)) (s_L (s_aload_n dX6_start_43 rfl)))) (s_N (s_N (s_L (s_getf ok_5 (k := 7) (by decide) dX6_start_44 qw_190)) (s_L (s_o_dup dX6_start_47))) (s_N (s_L (s_getf ok_6 (k := 3) (by decide) dX6_start_48 qw_151)) (s_N (s_L (s_iconst dX6_start_51 (by decide +kernel))) (s_L (s_o_iadd dX6_start_52)))))) (s_N (s_N (s_N (s_L (s_puti ok_6 (k := 3) (by decide) rfl (Or.inl rfl) dX6_start_53 qw_151)) (s_L (s_aload_n dX6_start_56 rfl))) (s_N (s_L (s_getf ok_5 (k := 7) (by decide) dX6_start_57 qw_190)) (s_L (s_o_dup dX6_start_60)))) (s_N (s_N (s_L (s_getf ok_6 (k := 2) (by decide) dX6_start_61 qw_148)) (s_L (s_iconst dX6_start_64 (by decide +kernel)))) (s_N (s_L (s_o_iadd dX6_start_65)) (s_N (s_L (s_puti ok_6 (k := 2) (by decide) rfl (Or.inl rfl) dX6_start_66 qw_148)) (s_L (s_vret rfl dX6_start_69)))))))
/-! PlateArm$State.moveOn -/
theorem dX6_moveOn_0 : decode cX6_moveOn 0 = .ok (.aload_n 0, 1) := by decide +kernel
theorem dX6_moveOn_1 : decode cX6_moveOn 1 = .ok (.getfield 25, 3) := by decide +kernel
theorem dX6_moveOn_4 : decode cX6_moveOn 4 = .ok (.iload_n 1, 1) := by decide +kernel
theorem dX6_moveOn_5 : decode cX6_moveOn 5 = .ok (.invokevirtual 174, 3) := by decide +kernel
theorem dX6_moveOn_8 : decode cX6_moveOn 8 = .ok (.ifCond .eq 39, 3) := by decide +kernel
theorem dX6_moveOn_11 : decode cX6_moveOn 11 = .ok (.aload_n 0, 1) := by decide +kernel
theorem dX6_moveOn_12 : decode cX6_moveOn 12 = .ok (.getfield 25, 3) := by decide +kernel
theorem dX6_moveOn_15 : decode cX6_moveOn 15 = .ok (.invokevirtual 165, 3) := by decide +kernel
theorem dX6_moveOn_18 : decode cX6_moveOn 18 = .ok (.aload_n 0, 1) := by decide +kernel
theorem dX6_moveOn_19 : decode cX6_moveOn 19 = .ok (.getfield 25, 3) := by decide +kernel
theorem dX6_moveOn_22 : decode cX6_moveOn 22 = .ok (.dup, 1) := by decide +kernel
theorem dX6_moveOn_23 : decode cX6_moveOn 23 = .ok (.getfield 144, 3) := by decide +kernel
theorem dX6_moveOn_26 : decode cX6_moveOn 26 = .ok (.iconst 1, 1) := by decide +kernel
theorem dX6_moveOn_27 : decode cX6_moveOn 27 = .ok (.iadd, 1) := by decide +kernel
theorem dX6_moveOn_28 : decode cX6_moveOn 28 = .ok (.putfield 144, 3) := by decide +kernel
theorem dX6_moveOn_31 : decode cX6_moveOn 31 = .ok (.aload_n 0, 1) := by decide +kernel
theorem dX6_moveOn_32 : decode cX6_moveOn 32 = .ok (.getfield 46, 3) := by decide +kernel
theorem dX6_moveOn_35 : decode cX6_moveOn 35 = .ok (.dup, 1) := by decide +kernel
theorem dX6_moveOn_36 : decode cX6_moveOn 36 = .ok (.getfield 171, 3) := by decide +kernel
theorem dX6_moveOn_39 : decode cX6_moveOn 39 = .ok (.iconst 1, 1) := by decide +kernel
theorem dX6_moveOn_40 : decode cX6_moveOn 40 = .ok (.iadd, 1) := by decide +kernel
theorem dX6_moveOn_41 : decode cX6_moveOn 41 = .ok (.putfield 171, 3) := by decide +kernel
theorem dX6_moveOn_44 : decode cX6_moveOn 44 = .ok (.goto 42, 3) := by decide +kernel
theorem dX6_moveOn_47 : decode cX6_moveOn 47 = .ok (.aload_n 0, 1) := by decide +kernel
theorem dX6_moveOn_48 : decode cX6_moveOn 48 = .ok (.getfield 25, 3) := by decide +kernel
theorem dX6_moveOn_51 : decode cX6_moveOn 51 = .ok (.iconst 0, 1) := by decide +kernel
theorem dX6_moveOn_52 : decode cX6_moveOn 52 = .ok (.putfield 101, 3) := by decide +kernel
theorem dX6_moveOn_55 : decode cX6_moveOn 55 = .ok (.aload_n 0, 1) := by decide +kernel
theorem dX6_moveOn_56 : decode cX6_moveOn 56 = .ok (.getfield 25, 3) := by decide +kernel
theorem dX6_moveOn_59 : decode cX6_moveOn 59 = .ok (.dup, 1) := by decide +kernel
theorem dX6_moveOn_60 : decode cX6_moveOn 60 = .ok (.getfield 144, 3) := by decide +kernel
theorem dX6_moveOn_63 : decode cX6_moveOn 63 = .ok (.aload_n 0, 1) := by decide +kernel
theorem dX6_moveOn_64 : decode cX6_moveOn 64 = .ok (.getfield 18, 3) := by decide +kernel
theorem dX6_moveOn_67 : decode cX6_moveOn 67 = .ok (.iconst 1, 1) := by decide +kernel
theorem dX6_moveOn_68 : decode cX6_moveOn 68 = .ok (.iaload, 1) := by decide +kernel
theorem dX6_moveOn_69 : decode cX6_moveOn 69 = .ok (.iadd, 1) := by decide +kernel
theorem dX6_moveOn_70 : decode cX6_moveOn 70 = .ok (.putfield 144, 3) := by decide +kernel
theorem dX6_moveOn_73 : decode cX6_moveOn 73 = .ok (.aload_n 0, 1) := by decide +kernel
theorem dX6_moveOn_74 : decode cX6_moveOn 74 = .ok (.getfield 46, 3) := by decide +kernel
theorem dX6_moveOn_77 : decode cX6_moveOn 77 = .ok (.dup, 1) := by decide +kernel
theorem dX6_moveOn_78 : decode cX6_moveOn 78 = .ok (.getfield 178, 3) := by decide +kernel
theorem dX6_moveOn_81 : decode cX6_moveOn 81 = .ok (.iconst 1, 1) := by decide +kernel
theorem dX6_moveOn_82 : decode cX6_moveOn 82 = .ok (.iadd, 1) := by decide +kernel
theorem dX6_moveOn_83 : decode cX6_moveOn 83 = .ok (.putfield 178, 3) := by decide +kernel
theorem dX6_moveOn_86 : decode cX6_moveOn 86 = .ok (.return_, 1) := by decide +kernel
theorem cc_X6_moveOn_X1_liesFarther : CallC tX6_moveOn tX1_liesFarther 1 := ⟨by decide +kernel, by decide +kernel, by decide +kernel, by decide, by decide, qw_17, qw_541⟩
theorem cc_X6_moveOn_X1_step : CallC tX6_moveOn tX1_step 0 := ⟨by decide +kernel, by decide +kernel, by decide +kernel, by decide, by decide, qw_17, qw_545⟩
def kX6_moveOn : Nat → WOp := cN 41 (cN 22 (cN 8 (cN 1 (cN 0 (cL 0 (o_aload 1 0)) (cL 1 (o_getf 4 5 4))) (cN 4 (cL 4 (o_iload 5 1)) (cN 5 (cL 5 (o_callV 8 0 1 tX1_liesFarther 0 0)) (cL 8 (o_if_eq 47 11))))) (cN 15 (cN 11 (cL 11 (o_aload 12 0)) (cN 12 (cL 12 (o_getf 15 5 4)) (cL 15 (o_callV 18 0 0 tX1_step 0 0)))) (cN 18 (cL 18 (o_aload 19 0)) (cN 19 (cL 19 (o_getf 22 5 4)) (cL 22 (o_dup 23)))))) (cN 31 (cN 26 (cN 23 (cL 23 (o_getf 26 0 2)) (cL 26 (o_push 27 1))) (cN 27 (cL 27 (o_iadd 28)) (cN 28 (cL 28 (o_puti 31 0 2)) (cL 31 (o_aload 32 0))))) (cN 36 (cN 32 (cL 32 (o_getf 35 5 7)) (cN 35 (cL 35 (o_dup 36)) (cL 36 (o_getf 39 6 2)))) (cN 39 (cL 39 (o_push 40 1)) (cN 40 (cL 40 (o_iadd 41)) (cL 41 (o_puti 44 6 2))))))) (cN 64 (cN 52 (cN 47 (cN 44 (cL 44 (o_goto 86)) (cL 47 (o_aload 48 0))) (cN 48 (cL 48 (o_getf 51 5 4)) (cN 51 (cL 51 (o_push 52 0)) (cL 52 (o_puti 55 0 1))))) (cN 59 (cN 55 (cL 55 (o_aload 56 0)) (cN 56 (cL 56 (o_getf 59 5 4)) (cL 59 (o_dup 60)))) (cN 60 (cL 60 (o_getf 63 0 2)) (cN 63 (cL 63 (o_aload 64 0)) (cL 64 (o_getf 67 5 3)))))) (cN 74 (cN 69 (cN 67 (cL 67 (o_push 68 1)) (cN 68 (cL 68 (o_iald 69)) (cL 69 (o_iadd 70)))) (cN 70 (cL 70 (o_puti 73 0 2)) (cN 73 (cL 73 (o_aload 74 0)) (cL 74 (o_getf 77 5 7))))) (cN 81 (cN 77 (cL 77 (o_dup 78)) (cN 78 (cL 78 (o_getf 81 6 4)) (cL 81 (o_push 82 1)))) (cN 82 (cL 82 (o_iadd 83)) (cN 83 (cL 83 (o_puti 86 6 4)) (cL 86 (o_vret)))))))
theorem sX6_moveOn : ∀ pc, Snd tX6_moveOn G1 pc (kX6_moveOn pc) := s_N (s_N (s_N (s_N (s_N (s_L (s_aload_n dX6_moveOn_0 rfl)) (s_L (s_getf ok_5 (k := 4) (by decide) dX6_moveOn_1 qw_184))) (s_N (s_L (s_iload_n dX6_moveOn_4 rfl)) (s_N (s_L (s_callV (d' := tX1_liesFarther) (mc := 0) (ms := 0) ok_0 cc_X6_moveOn_X1_liesFarther qw_538 qw_539 qw_540 dX6_moveOn_5)) (s_L (s_o_if_eq dX6_moveOn_8 (by decide)))))) (s_N (s_N (s_L (s_aload_n dX6_moveOn_11 rfl)) (s_N (s_L (s_getf ok_5 (k := 4) (by decide) dX6_moveOn_12 qw_184)) (s_L (s_callV (d' := tX1_step) (mc := 0) (ms := 0) ok_0 cc_X6_moveOn_X1_step qw_542 qw_543 qw_544 dX6_moveOn_15)))) (s_N (s_L (s_aload_n dX6_moveOn_18 rfl)) (s_N (s_L (s_getf ok_5 (k := 4) (by decide) dX6_moveOn_19 qw_184)) (s_L (s_o_dup dX6_moveOn_22)))))) (s_N (s_N (s_N (s_L (s_getf ok_0 (k := 2) (by decide) dX6_moveOn_23 qw_60)) (s_L (s_iconst dX6_moveOn_26 (by decide +kernel)))) (s_N (s_L (s_o_iadd dX6_moveOn_27)) (s_N (s_L (s_puti ok_0 (k := 2) (by decide) rfl (Or.inl rfl) dX6_moveOn_28 qw_60)) (s_L (s_aload_n dX6_moveOn_31 rfl))))) (s_N (s_N (s_L (s_getf ok_5 (k := 7) (by decide) dX6_moveOn_32 qw_190)) (s_N (s_L (s_o_dup dX6_moveOn_35)) (s_L (s_getf ok_6 (k := 2) (by decide) dX6_moveOn_36 qw_148)))) (s_N (s_L (s_iconst dX6_moveOn_39 (by decide +kernel))) (s_N (s_L (s_o_iadd dX6_moveOn_40)) (s_L (s_puti ok_6 (k := 2) (by decide) rfl (Or.inl rfl) dX6_moveOn_41 qw_148))))))) (s_N (s_N (s_N (s_N (s_L (s_o_goto dX6_moveOn_44 (by decide))) (s_L (s_aload_n dX6_moveOn_47 rfl))) (s_N (s_L (s_getf ok_5 (k := 4) (by decide) dX6_moveOn_48 qw_184)) (s_N (s_L (s_iconst dX6_moveOn_51 (by decide +kernel))) (s_L (s_puti ok_0 (k := 1) (by decide) rfl (Or.inl rfl) dX6_moveOn_52 qw_57))))) (s_N (s_N (s_L (s_aload_n dX6_moveOn_55 rfl)) (s_N (s_L (s_getf ok_5 (k := 4) (by decide) dX6_moveOn_56 qw_184)) (s_L (s_o_dup dX6_moveOn_59)))) (s_N (s_L (s_getf ok_0 (k := 2) (by decide) dX6_moveOn_60 qw_60)) (s_N (s_L (s_aload_n dX6_moveOn_63 rfl)) (s_L (s_getf ok_5 (k := 3) (by decide) dX6_moveOn_64 qw_182)))))) (s_N (s_N (s_N (s_L (s_iconst dX6_moveOn_67 (by decide +kernel))) (s_N (s_L (s_iald dX6_moveOn_68)) (s_L (s_o_iadd dX6_moveOn_69)))) (s_N (s_L (s_puti ok_0 (k := 2) (by decide) rfl (Or.inl rfl) dX6_moveOn_70 qw_60)) (s_N (s_L (s_aload_n dX6_moveOn_73 rfl)) (s_L (s_getf ok_5 (k := 7) (by decide) dX6_moveOn_74 qw_190))))) (s_N (s_N (s_L (s_o_dup dX6_moveOn_77)) (s_N (s_L (s_getf ok_6 (k := 4) (by decide) dX6_moveOn_78 qw_154)) (s_L (s_iconst dX6_moveOn_81 (by decide +kernel))))) (s_N (s_L (s_o_iadd dX6_moveOn_82)) (s_N (s_L (s_puti ok_6 (k := 4) (by decide) rfl (Or.inl rfl) dX6_moveOn_83 qw_154)) (s_L (s_vret rfl dX6_moveOn_86)))))))
/-! PlateArm$State.readUnderArm -/
theorem dX6_readUnderArm_0 : decode cX6_readUnderArm 0 = .ok (.aload_n 0, 1) := by decide +kernel
theorem dX6_readUnderArm_1 : decode cX6_readUnderArm 1 = .ok (.invokevirtual 118, 3) := by decide +kernel
theorem dX6_readUnderArm_4 : decode cX6_readUnderArm 4 = .ok (.istore_n 1, 1) := by decide +kernel
theorem dX6_readUnderArm_5 : decode cX6_readUnderArm 5 = .ok (.iconst 0, 1) := by decide +kernel
theorem dX6_readUnderArm_6 : decode cX6_readUnderArm 6 = .ok (.istore_n 2, 1) := by decide +kernel
theorem dX6_readUnderArm_7 : decode cX6_readUnderArm 7 = .ok (.iconst 0, 1) := by decide +kernel
theorem dX6_readUnderArm_8 : decode cX6_readUnderArm 8 = .ok (.istore_n 3, 1) := by decide +kernel
theorem dX6_readUnderArm_9 : decode cX6_readUnderArm 9 = .ok (.iload_n 3, 1) := by decide +kernel
theorem dX6_readUnderArm_10 : decode cX6_readUnderArm 10 = .ok (.aload_n 0, 1) := by decide +kernel
theorem dX6_readUnderArm_11 : decode cX6_readUnderArm 11 = .ok (.getfield 32, 3) := by decide +kernel
theorem dX6_readUnderArm_14 : decode cX6_readUnderArm 14 = .ok (.getfield 84, 3) := by decide +kernel
theorem dX6_readUnderArm_17 : decode cX6_readUnderArm 17 = .ok (.if_icmp .ge 131, 3) := by decide +kernel
theorem dX6_readUnderArm_20 : decode cX6_readUnderArm 20 = .ok (.aload_n 0, 1) := by decide +kernel
theorem dX6_readUnderArm_21 : decode cX6_readUnderArm 21 = .ok (.getfield 32, 3) := by decide +kernel
theorem dX6_readUnderArm_24 : decode cX6_readUnderArm 24 = .ok (.getfield 104, 3) := by decide +kernel
theorem dX6_readUnderArm_27 : decode cX6_readUnderArm 27 = .ok (.iload_n 3, 1) := by decide +kernel
theorem dX6_readUnderArm_28 : decode cX6_readUnderArm 28 = .ok (.iaload, 1) := by decide +kernel
theorem dX6_readUnderArm_29 : decode cX6_readUnderArm 29 = .ok (.aload_n 0, 1) := by decide +kernel
theorem dX6_readUnderArm_30 : decode cX6_readUnderArm 30 = .ok (.getfield 25, 3) := by decide +kernel
theorem dX6_readUnderArm_33 : decode cX6_readUnderArm 33 = .ok (.getfield 106, 3) := by decide +kernel
theorem dX6_readUnderArm_36 : decode cX6_readUnderArm 36 = .ok (.if_icmp .ne 94, 3) := by decide +kernel
theorem dX6_readUnderArm_39 : decode cX6_readUnderArm 39 = .ok (.aload_n 0, 1) := by decide +kernel
theorem dX6_readUnderArm_40 : decode cX6_readUnderArm 40 = .ok (.getfield 32, 3) := by decide +kernel
theorem dX6_readUnderArm_43 : decode cX6_readUnderArm 43 = .ok (.getfield 116, 3) := by decide +kernel
theorem dX6_readUnderArm_46 : decode cX6_readUnderArm 46 = .ok (.iload_n 3, 1) := by decide +kernel
theorem dX6_readUnderArm_47 : decode cX6_readUnderArm 47 = .ok (.iaload, 1) := by decide +kernel
theorem dX6_readUnderArm_48 : decode cX6_readUnderArm 48 = .ok (.iload_n 1, 1) := by decide +kernel
theorem dX6_readUnderArm_49 : decode cX6_readUnderArm 49 = .ok (.if_icmp .ne 81, 3) := by decide +kernel
theorem dX6_readUnderArm_52 : decode cX6_readUnderArm 52 = .ok (.aload_n 0, 1) := by decide +kernel
theorem dX6_readUnderArm_53 : decode cX6_readUnderArm 53 = .ok (.getfield 50, 3) := by decide +kernel
theorem dX6_readUnderArm_56 : decode cX6_readUnderArm 56 = .ok (.aload_n 0, 1) := by decide +kernel
theorem dX6_readUnderArm_57 : decode cX6_readUnderArm 57 = .ok (.getfield 32, 3) := by decide +kernel
theorem dX6_readUnderArm_60 : decode cX6_readUnderArm 60 = .ok (.getfield 159, 3) := by decide +kernel
theorem dX6_readUnderArm_63 : decode cX6_readUnderArm 63 = .ok (.iload_n 3, 1) := by decide +kernel
theorem dX6_readUnderArm_64 : decode cX6_readUnderArm 64 = .ok (.iaload, 1) := by decide +kernel
theorem dX6_readUnderArm_65 : decode cX6_readUnderArm 65 = .ok (.if_icmp .le 7, 3) := by decide +kernel
theorem dX6_readUnderArm_68 : decode cX6_readUnderArm 68 = .ok (.iconst 1, 1) := by decide +kernel
theorem dX6_readUnderArm_69 : decode cX6_readUnderArm 69 = .ok (.goto 4, 3) := by decide +kernel
theorem dX6_readUnderArm_72 : decode cX6_readUnderArm 72 = .ok (.iconst 0, 1) := by decide +kernel
theorem dX6_readUnderArm_73 : decode cX6_readUnderArm 73 = .ok (.istore 4, 2) := by decide +kernel
theorem dX6_readUnderArm_75 : decode cX6_readUnderArm 75 = .ok (.aload_n 0, 1) := by decide +kernel
theorem dX6_readUnderArm_76 : decode cX6_readUnderArm 76 = .ok (.getfield 39, 3) := by decide +kernel
theorem dX6_readUnderArm_79 : decode cX6_readUnderArm 79 = .ok (.aload_n 0, 1) := by decide +kernel
theorem dX6_readUnderArm_80 : decode cX6_readUnderArm 80 = .ok (.getfield 32, 3) := by decide +kernel
theorem dX6_readUnderArm_83 : decode cX6_readUnderArm 83 = .ok (.getfield 162, 3) := by decide +kernel
theorem dX6_readUnderArm_86 : decode cX6_readUnderArm 86 = .ok (.iload_n 3, 1) := by decide +kernel
theorem dX6_readUnderArm_87 : decode cX6_readUnderArm 87 = .ok (.iaload, 1) := by decide +kernel
theorem dX6_readUnderArm_88 : decode cX6_readUnderArm 88 = .ok (.aload_n 0, 1) := by decide +kernel
theorem dX6_readUnderArm_89 : decode cX6_readUnderArm 89 = .ok (.getfield 25, 3) := by decide +kernel
theorem dX6_readUnderArm_92 : decode cX6_readUnderArm 92 = .ok (.getfield 106, 3) := by decide +kernel
theorem dX6_readUnderArm_95 : decode cX6_readUnderArm 95 = .ok (.iload_n 1, 1) := by decide +kernel
theorem dX6_readUnderArm_96 : decode cX6_readUnderArm 96 = .ok (.aload_n 0, 1) := by decide +kernel
theorem dX6_readUnderArm_97 : decode cX6_readUnderArm 97 = .ok (.getfield 50, 3) := by decide +kernel
theorem dX6_readUnderArm_100 : decode cX6_readUnderArm 100 = .ok (.iload 4, 2) := by decide +kernel
theorem dX6_readUnderArm_102 : decode cX6_readUnderArm 102 = .ok (.invokevirtual 181, 3) := by decide +kernel
theorem dX6_readUnderArm_105 : decode cX6_readUnderArm 105 = .ok (.aload_n 0, 1) := by decide +kernel
theorem dX6_readUnderArm_106 : decode cX6_readUnderArm 106 = .ok (.getfield 46, 3) := by decide +kernel
theorem dX6_readUnderArm_109 : decode cX6_readUnderArm 109 = .ok (.dup, 1) := by decide +kernel
theorem dX6_readUnderArm_110 : decode cX6_readUnderArm 110 = .ok (.getfield 185, 3) := by decide +kernel
theorem dX6_readUnderArm_113 : decode cX6_readUnderArm 113 = .ok (.iload 4, 2) := by decide +kernel
theorem dX6_readUnderArm_115 : decode cX6_readUnderArm 115 = .ok (.ifCond .eq 7, 3) := by decide +kernel
theorem dX6_readUnderArm_118 : decode cX6_readUnderArm 118 = .ok (.iconst 1, 1) := by decide +kernel
theorem dX6_readUnderArm_119 : decode cX6_readUnderArm 119 = .ok (.goto 4, 3) := by decide +kernel
theorem dX6_readUnderArm_122 : decode cX6_readUnderArm 122 = .ok (.iconst 0, 1) := by decide +kernel
theorem dX6_readUnderArm_123 : decode cX6_readUnderArm 123 = .ok (.iadd, 1) := by decide +kernel
theorem dX6_readUnderArm_124 : decode cX6_readUnderArm 124 = .ok (.putfield 185, 3) := by decide +kernel
theorem dX6_readUnderArm_127 : decode cX6_readUnderArm 127 = .ok (.goto 15, 3) := by decide +kernel
theorem dX6_readUnderArm_130 : decode cX6_readUnderArm 130 = .ok (.aload_n 0, 1) := by decide +kernel
theorem dX6_readUnderArm_131 : decode cX6_readUnderArm 131 = .ok (.getfield 32, 3) := by decide +kernel
theorem dX6_readUnderArm_134 : decode cX6_readUnderArm 134 = .ok (.iload_n 3, 1) := by decide +kernel
theorem dX6_readUnderArm_135 : decode cX6_readUnderArm 135 = .ok (.iload_n 2, 1) := by decide +kernel
theorem dX6_readUnderArm_136 : decode cX6_readUnderArm 136 = .ok (.invokevirtual 188, 3) := by decide +kernel
theorem dX6_readUnderArm_139 : decode cX6_readUnderArm 139 = .ok (.iinc 2 1, 3) := by decide +kernel
theorem dX6_readUnderArm_142 : decode cX6_readUnderArm 142 = .ok (.iinc 3 1, 3) := by decide +kernel
theorem dX6_readUnderArm_145 : decode cX6_readUnderArm 145 = .ok (.goto (-136), 3) := by decide +kernel
theorem dX6_readUnderArm_148 : decode cX6_readUnderArm 148 = .ok (.aload_n 0, 1) := by decide +kernel
theorem dX6_readUnderArm_149 : decode cX6_readUnderArm 149 = .ok (.getfield 32, 3) := by decide +kernel
theorem dX6_readUnderArm_152 : decode cX6_readUnderArm 152 = .ok (.iload_n 2, 1) := by decide +kernel
theorem dX6_readUnderArm_153 : decode cX6_readUnderArm 153 = .ok (.putfield 84, 3) := by decide +kernel
theorem dX6_readUnderArm_156 : decode cX6_readUnderArm 156 = .ok (.return_, 1) := by decide +kernel
theorem cc_X6_readUnderArm_X6_sectorUnderArm : CallC tX6_readUnderArm tX6_sectorUnderArm 0 := ⟨by decide +kernel, by decide +kernel, by decide +kernel, by decide, by decide, qw_16, qw_557⟩
theorem cc_X6_readUnderArm_X4_write : CallC tX6_readUnderArm tX4_write 5 := ⟨by decide +kernel, by decide +kernel, by decide +kernel, by decide, by decide, qw_19, qw_561⟩
theorem cc_X6_readUnderArm_X5_move : CallC tX6_readUnderArm tX5_move 2 := ⟨by decide +kernel, by decide +kernel, by decide +kernel, by decide, by decide, qw_18, qw_486⟩
def kX6_readUnderArm : Nat → WOp := cN 73 (cN 33 (cN 11 (cN 6 (cN 1 (cN 0 (cL 0 (o_aload 1 0)) (cL 1 (o_callV 4 5 0 tX6_sectorUnderArm 0 0))) (cN 4 (cL 4 (o_istore 5 1)) (cN 5 (cL 5 (o_push 6 0)) (cL 6 (o_istore 7 2))))) (cN 8 (cN 7 (cL 7 (o_push 8 0)) (cL 8 (o_istore 9 3))) (cN 9 (cL 9 (o_iload 10 3)) (cN 10 (cL 10 (o_aload 11 0)) (cL 11 (o_getf 14 5 5)))))) (cN 24 (cN 17 (cN 14 (cL 14 (o_getf 17 4 0)) (cL 17 (o_icmp_ge 148 20))) (cN 20 (cL 20 (o_aload 21 0)) (cN 21 (cL 21 (o_getf 24 5 5)) (cL 24 (o_getf 27 4 3))))) (cN 28 (cN 27 (cL 27 (o_iload 28 3)) (cL 28 (o_iald 29))) (cN 29 (cL 29 (o_aload 30 0)) (cN 30 (cL 30 (o_getf 33 5 4)) (cL 33 (o_getf 36 0 0))))))) (cN 53 (cN 46 (cN 39 (cN 36 (cL 36 (o_icmp_ne 130 39)) (cL 39 (o_aload 40 0))) (cN 40 (cL 40 (o_getf 43 5 5)) (cN 43 (cL 43 (o_getf 46 4 4)) (cL 46 (o_iload 47 3))))) (cN 48 (cN 47 (cL 47 (o_iald 48)) (cL 48 (o_iload 49 1))) (cN 49 (cL 49 (o_icmp_ne 130 52)) (cN 52 (cL 52 (o_aload 53 0)) (cL 53 (o_getf 56 5 2)))))) (cN 64 (cN 57 (cN 56 (cL 56 (o_aload 57 0)) (cL 57 (o_getf 60 5 5))) (cN 60 (cL 60 (o_getf 63 4 5)) (cN 63 (cL 63 (o_iload 64 3)) (cL 64 (o_iald 65))))) (cN 68 (cN 65 (cL 65 (o_icmp_le 72 68)) (cL 68 (o_push 69 1))) (cN 69 (cL 69 (o_goto 73)) (cN 72 (cL 72 (o_push 73 0)) (cL 73 (o_istore 75 4)))))))) (cN 113 (cN 92 (cN 83 (cN 76 (cN 75 (cL 75 (o_aload 76 0)) (cL 76 (o_getf 79 5 6))) (cN 79 (cL 79 (o_aload 80 0)) (cN 80 (cL 80 (o_getf 83 5 5)) (cL 83 (o_getf 86 4 2))))) (cN 87 (cN 86 (cL 86 (o_iload 87 3)) (cL 87 (o_iald 88))) (cN 88 (cL 88 (o_aload 89 0)) (cN 89 (cL 89 (o_getf 92 5 4)) (cL 92 (o_getf 95 0 0)))))) (cN 102 (cN 96 (cN 95 (cL 95 (o_iload 96 1)) (cL 96 (o_aload 97 0))) (cN 97 (cL 97 (o_getf 100 5 2)) (cN 100 (cL 100 (o_iload 102 4)) (cL 102 (o_callV 105 3 5 tX4_write 0 0))))) (cN 106 (cN 105 (cL 105 (o_aload 106 0)) (cL 106 (o_getf 109 5 7))) (cN 109 (cL 109 (o_dup 110)) (cN 110 (cL 110 (o_getf 113 6 0)) (cL 113 (o_iload 115 4))))))) (cN 134 (cN 123 (cN 118 (cN 115 (cL 115 (o_if_eq 122 118)) (cL 118 (o_push 119 1))) (cN 119 (cL 119 (o_goto 123)) (cN 122 (cL 122 (o_push 123 0)) (cL 123 (o_iadd 124))))) (cN 127 (cN 124 (cL 124 (o_puti 127 6 0)) (cL 127 (o_goto 142))) (cN 130 (cL 130 (o_aload 131 0)) (cN 131 (cL 131 (o_getf 134 5 5)) (cL 134 (o_iload 135 3)))))) (cN 145 (cN 136 (cN 135 (cL 135 (o_iload 136 2)) (cL 136 (o_callV 139 4 2 tX5_move 0 0))) (cN 139 (cL 139 (o_iinc 142 2 1)) (cN 142 (cL 142 (o_iinc 145 3 1)) (cL 145 (o_goto 9))))) (cN 149 (cN 148 (cL 148 (o_aload 149 0)) (cL 149 (o_getf 152 5 5))) (cN 152 (cL 152 (o_iload 153 2)) (cN 153 (cL 153 (o_puti 156 4 0)) (cL 156 (o_vret))))))))
theorem sX6_readUnderArm : ∀ pc, Snd tX6_readUnderArm G1 pc (kX6_readUnderArm pc) := s_N (s_N (s_N (s_N (s_N (s_N (s_L (s_aload_n dX6_readUnderArm_0 rfl)) (s_L (s_callV (d' := tX6_sectorUnderArm) (mc := 0) (ms := 0) ok_5 cc_X6_readUnderArm_X6_sectorUnderArm qw_554 qw_555 qw_556 dX6_readUnderArm_1))) (s_N (s_L (s_istore_n dX6_readUnderArm_4 rfl (by decide))) (s_N (s_L (s_iconst dX6_readUnderArm_5 (by decide +kernel))) (s_L (s_istore_n dX6_readUnderArm_6 rfl (by decide)))))) (s_N (s_N (s_L (s_iconst dX6_readUnderArm_7 (by decide +kernel))) (s_L (s_istore_n dX6_readUnderArm_8 rfl (by decide)))) (s_N (s_L (s_iload_n dX6_readUnderArm_9 rfl)) (s_N (s_L (s_aload_n dX6_readUnderArm_10 rfl)) (s_L (s_getf ok_5 (k := 5) (by decide) dX6_readUnderArm_11 qw_186)))))) (s_N (s_N (s_N (s_L (s_getf ok_4 (k := 0) (by decide) dX6_readUnderArm_14 qw_88)) (s_L (s_o_icmp_ge dX6_readUnderArm_17 (by decide)))) (s_N (s_L (s_aload_n dX6_readUnderArm_20 rfl)) (s_N (s_L (s_getf ok_5 (k := 5) (by decide) dX6_readUnderArm_21 qw_186)) (s_L (s_getf ok_4 (k := 3) (by decide) dX6_readUnderArm_24 qw_95))))) (s_N (s_N (s_L (s_iload_n dX6_readUnderArm_27 rfl)) (s_L (s_iald dX6_readUnderArm_28))) (s_N (s_L (s_aload_n dX6_readUnderArm_29 rfl)) (s_N (s_L (s_getf ok_5 (k := 4) (by decide) dX6_readUnderArm_30 qw_184)) (s_L (s_getf ok_0 (k := 0) (by decide) dX6_readUnderArm_33 qw_54))))))) (s_N (s_N (s_N (s_N (s_L (s_o_icmp_ne dX6_readUnderArm_36 (by decide))) (s_L (s_aload_n dX6_readUnderArm_39 rfl))) (s_N (s_L (s_getf ok_5 (k := 5) (by decide) dX6_readUnderArm_40 qw_186)) (s_N (s_L (s_getf ok_4 (k := 4) (by decide) dX6_readUnderArm_43 qw_98)) (s_L (s_iload_n dX6_readUnderArm_46 rfl))))) (s_N (s_N (s_L (s_iald dX6_readUnderArm_47)) (s_L (s_iload_n dX6_readUnderArm_48 rfl))) (s_N (s_L (s_o_icmp_ne dX6_readUnderArm_49 (by decide))) (s_N (s_L (s_aload_n dX6_readUnderArm_52 rfl)) (s_L (s_getf ok_5 (k := 2) (by decide) dX6_readUnderArm_53 qw_180)))))) (s_N (s_N (s_N (s_L (s_aload_n dX6_readUnderArm_56 rfl)) (s_L (s_getf ok_5 (k := 5) (by decide) dX6_readUnderArm_57 qw_186))) (s_N (s_L (s_getf ok_4 (k := 5) (by decide) dX6_readUnderArm_60 qw_101)) (s_N (s_L (s_iload_n dX6_readUnderArm_63 rfl)) (s_L (s_iald dX6_readUnderArm_64))))) (s_N (s_N (s_L (s_o_icmp_le dX6_readUnderArm_65 (by decide))) (s_L (s_iconst dX6_readUnderArm_68 (by decide +kernel)))) (s_N (s_L (s_o_goto dX6_readUnderArm_69 (by decide))) (s_N (s_L (s_iconst dX6_readUnderArm_72 (by decide +kernel))) (s_L (s_istore dX6_readUnderArm_73 (by decide))))))))) (s_N (s_N (s_N (s_N (s_N (s_L (s_aload_n dX6_readUnderArm_75 rfl)) (s_L (s_getf ok_5 (k := 6) (by decide) dX6_readUnderArm_76 qw_188))) (s_N (s_L (s_aload_n dX6_readUnderArm_79 rfl)) (s_N (s_L (s_getf ok_5 (k := 5) (by decide) dX6_readUnderArm_80 qw_186)) (s_L (s_getf ok_4 (k := 2) (by decide) dX6_readUnderArm_83 qw_93))))) (s_N (s_N (s_L (s_iload_n dX6_readUnderArm_86 rfl)) (s_L (s_iald dX6_readUnderArm_87))) (s_N (s_L (s_aload_n dX6_readUnderArm_88 rfl)) (s_N (s_L (s_getf ok_5 (k := 4) (by decide) dX6_readUnderArm_89 qw_184)) (s_L (s_getf ok_0 (k := 0) (by decide) dX6_readUnderArm_92 qw_54)))))) (s_N (s_N (s_N (s_L (s_iload_n dX6_readUnderArm_95 rfl)) (s_L (s_aload_n dX6_readUnderArm_96 rfl))) (s_N (s_L (s_getf ok_5 (k := 2) (by decide) dX6_readUnderArm_97 qw_180)) (s_N (s_L (s_iload dX6_readUnderArm_100)) (s_L (s_callV (d' := tX4_write) (mc := 0) (ms := 0) ok_3 cc_X6_readUnderArm_X4_write qw_558 qw_559 qw_560 dX6_readUnderArm_102))))) (s_N (s_N (s_L (s_aload_n dX6_readUnderArm_105 rfl)) (s_L (s_getf ok_5 (k := 7) (by decide) dX6_readUnderArm_106 qw_190))) (s_N (s_L (s_o_dup dX6_readUnderArm_109)) (s_N (s_L (s_getf ok_6 (k := 0) (by decide) dX6_readUnderArm_110 qw_142)) (s_L (s_iload dX6_readUnderArm_113))))))) (s_N (s_N (s_N (s_N (s_L (s_o_if_eq dX6_readUnderArm_115 (by decide))) (s_L (s_iconst dX6_readUnderArm_118 (by decide +kernel)))) (s_N (s_L (s_o_goto dX6_readUnderArm_119 (by decide))) (s_N (s_L (s_iconst dX6_readUnderArm_122 (by decide +kernel))) (s_L (s_o_iadd dX6_readUnderArm_123))))) (s_N (s_N (s_L (s_puti ok_6 (k := 0) (by decide) rfl (Or.inl rfl) dX6_readUnderArm_124 qw_142)) (s_L (s_o_goto dX6_readUnderArm_127 (by decide)))) (s_N (s_L (s_aload_n dX6_readUnderArm_130 rfl)) (s_N (s_L (s_getf ok_5 (k := 5) (by decide) dX6_readUnderArm_131 qw_186)) (s_L (s_iload_n dX6_readUnderArm_134 rfl)))))) (s_N (s_N (s_N (s_L (s_iload_n dX6_readUnderArm_135 rfl)) (s_L (s_callV (d' := tX5_move) (mc := 0) (ms := 0) ok_4 cc_X6_readUnderArm_X5_move qw_562 qw_484 qw_485 dX6_readUnderArm_136))) (s_N (s_L (s_iinc (v := 1) dX6_readUnderArm_139 (by decide +kernel) (by decide))) (s_N (s_L (s_iinc (v := 1) dX6_readUnderArm_142 (by decide +kernel) (by decide))) (s_L (s_o_goto dX6_readUnderArm_145 (by decide)))))) (s_N (s_N (s_L (s_aload_n dX6_readUnderArm_148 rfl)) (s_L (s_getf ok_5 (k := 5) (by decide) dX6_readUnderArm_149 qw_186))) (s_N (s_L (s_iload_n dX6_readUnderArm_152 rfl)) (s_N (s_L (s_puti ok_4 (k := 0) (by decide) rfl (Or.inl rfl) dX6_readUnderArm_153 qw_88)) (s_L (s_vret rfl dX6_readUnderArm_156))))))))
/-! PlateArm$State.giveUp -/
theorem dX6_giveUp_0 : decode cX6_giveUp 0 = .ok (.iconst 0, 1) := by decide +kernel
theorem dX6_giveUp_1 : decode cX6_giveUp 1 = .ok (.istore_n 1, 1) := by decide +kernel
theorem dX6_giveUp_2 : decode cX6_giveUp 2 = .ok (.iconst 0, 1) := by decide +kernel
theorem dX6_giveUp_3 : decode cX6_giveUp 3 = .ok (.istore_n 2, 1) := by decide +kernel
theorem dX6_giveUp_4 : decode cX6_giveUp 4 = .ok (.iload_n 2, 1) := by decide +kernel
theorem dX6_giveUp_5 : decode cX6_giveUp 5 = .ok (.aload_n 0, 1) := by decide +kernel
theorem dX6_giveUp_6 : decode cX6_giveUp 6 = .ok (.getfield 32, 3) := by decide +kernel
theorem dX6_giveUp_9 : decode cX6_giveUp 9 = .ok (.getfield 84, 3) := by decide +kernel
theorem dX6_giveUp_12 : decode cX6_giveUp 12 = .ok (.if_icmp .ge 60, 3) := by decide +kernel
theorem dX6_giveUp_15 : decode cX6_giveUp 15 = .ok (.aload_n 0, 1) := by decide +kernel
theorem dX6_giveUp_16 : decode cX6_giveUp 16 = .ok (.getfield 32, 3) := by decide +kernel
theorem dX6_giveUp_19 : decode cX6_giveUp 19 = .ok (.getfield 159, 3) := by decide +kernel
theorem dX6_giveUp_22 : decode cX6_giveUp 22 = .ok (.iload_n 2, 1) := by decide +kernel
theorem dX6_giveUp_23 : decode cX6_giveUp 23 = .ok (.iaload, 1) := by decide +kernel
theorem dX6_giveUp_24 : decode cX6_giveUp 24 = .ok (.aload_n 0, 1) := by decide +kernel
theorem dX6_giveUp_25 : decode cX6_giveUp 25 = .ok (.getfield 18, 3) := by decide +kernel
theorem dX6_giveUp_28 : decode cX6_giveUp 28 = .ok (.iconst 3, 1) := by decide +kernel
theorem dX6_giveUp_29 : decode cX6_giveUp 29 = .ok (.iaload, 1) := by decide +kernel
theorem dX6_giveUp_30 : decode cX6_giveUp 30 = .ok (.iadd, 1) := by decide +kernel
theorem dX6_giveUp_31 : decode cX6_giveUp 31 = .ok (.aload_n 0, 1) := by decide +kernel
theorem dX6_giveUp_32 : decode cX6_giveUp 32 = .ok (.getfield 50, 3) := by decide +kernel
theorem dX6_giveUp_35 : decode cX6_giveUp 35 = .ok (.if_icmp .ge 19, 3) := by decide +kernel
theorem dX6_giveUp_38 : decode cX6_giveUp 38 = .ok (.aload_n 0, 1) := by decide +kernel
theorem dX6_giveUp_39 : decode cX6_giveUp 39 = .ok (.getfield 46, 3) := by decide +kernel
theorem dX6_giveUp_42 : decode cX6_giveUp 42 = .ok (.dup, 1) := by decide +kernel
theorem dX6_giveUp_43 : decode cX6_giveUp 43 = .ok (.getfield 192, 3) := by decide +kernel
theorem dX6_giveUp_46 : decode cX6_giveUp 46 = .ok (.iconst 1, 1) := by decide +kernel
theorem dX6_giveUp_47 : decode cX6_giveUp 47 = .ok (.iadd, 1) := by decide +kernel
theorem dX6_giveUp_48 : decode cX6_giveUp 48 = .ok (.putfield 192, 3) := by decide +kernel
theorem dX6_giveUp_51 : decode cX6_giveUp 51 = .ok (.goto 15, 3) := by decide +kernel
theorem dX6_giveUp_54 : decode cX6_giveUp 54 = .ok (.aload_n 0, 1) := by decide +kernel
theorem dX6_giveUp_55 : decode cX6_giveUp 55 = .ok (.getfield 32, 3) := by decide +kernel
theorem dX6_giveUp_58 : decode cX6_giveUp 58 = .ok (.iload_n 2, 1) := by decide +kernel
theorem dX6_giveUp_59 : decode cX6_giveUp 59 = .ok (.iload_n 1, 1) := by decide +kernel
theorem dX6_giveUp_60 : decode cX6_giveUp 60 = .ok (.invokevirtual 188, 3) := by decide +kernel
theorem dX6_giveUp_63 : decode cX6_giveUp 63 = .ok (.iinc 1 1, 3) := by decide +kernel
theorem dX6_giveUp_66 : decode cX6_giveUp 66 = .ok (.iinc 2 1, 3) := by decide +kernel
theorem dX6_giveUp_69 : decode cX6_giveUp 69 = .ok (.goto (-65), 3) := by decide +kernel
theorem dX6_giveUp_72 : decode cX6_giveUp 72 = .ok (.aload_n 0, 1) := by decide +kernel
theorem dX6_giveUp_73 : decode cX6_giveUp 73 = .ok (.getfield 32, 3) := by decide +kernel
theorem dX6_giveUp_76 : decode cX6_giveUp 76 = .ok (.iload_n 1, 1) := by decide +kernel
theorem dX6_giveUp_77 : decode cX6_giveUp 77 = .ok (.putfield 84, 3) := by decide +kernel
theorem dX6_giveUp_80 : decode cX6_giveUp 80 = .ok (.return_, 1) := by decide +kernel
theorem cc_X6_giveUp_X5_move : CallC tX6_giveUp tX5_move 2 := ⟨by decide +kernel, by decide +kernel, by decide +kernel, by decide, by decide, qw_18, qw_486⟩
def kX6_giveUp : Nat → WOp := cN 32 (cN 15 (cN 4 (cN 1 (cN 0 (cL 0 (o_push 1 0)) (cL 1 (o_istore 2 1))) (cN 2 (cL 2 (o_push 3 0)) (cN 3 (cL 3 (o_istore 4 2)) (cL 4 (o_iload 5 2))))) (cN 6 (cN 5 (cL 5 (o_aload 6 0)) (cL 6 (o_getf 9 5 5))) (cN 9 (cL 9 (o_getf 12 4 0)) (cN 12 (cL 12 (o_icmp_ge 72 15)) (cL 15 (o_aload 16 0)))))) (cN 24 (cN 19 (cN 16 (cL 16 (o_getf 19 5 5)) (cL 19 (o_getf 22 4 5))) (cN 22 (cL 22 (o_iload 23 2)) (cN 23 (cL 23 (o_iald 24)) (cL 24 (o_aload 25 0))))) (cN 29 (cN 25 (cL 25 (o_getf 28 5 3)) (cN 28 (cL 28 (o_push 29 3)) (cL 29 (o_iald 30)))) (cN 30 (cL 30 (o_iadd 31)) (cN 31 (cL 31 (o_aload 32 0)) (cL 32 (o_getf 35 5 2))))))) (cN 55 (cN 43 (cN 38 (cN 35 (cL 35 (o_icmp_ge 54 38)) (cL 38 (o_aload 39 0))) (cN 39 (cL 39 (o_getf 42 5 7)) (cN 42 (cL 42 (o_dup 43)) (cL 43 (o_getf 46 6 1))))) (cN 48 (cN 46 (cL 46 (o_push 47 1)) (cN 47 (cL 47 (o_iadd 48)) (cL 48 (o_puti 51 6 1)))) (cN 51 (cL 51 (o_goto 66)) (cN 54 (cL 54 (o_aload 55 0)) (cL 55 (o_getf 58 5 5)))))) (cN 66 (cN 59 (cN 58 (cL 58 (o_iload 59 2)) (cL 59 (o_iload 60 1))) (cN 60 (cL 60 (o_callV 63 4 2 tX5_move 0 0)) (cN 63 (cL 63 (o_iinc 66 1 1)) (cL 66 (o_iinc 69 2 1))))) (cN 73 (cN 69 (cL 69 (o_goto 4)) (cN 72 (cL 72 (o_aload 73 0)) (cL 73 (o_getf 76 5 5)))) (cN 76 (cL 76 (o_iload 77 1)) (cN 77 (cL 77 (o_puti 80 4 0)) (cL 80 (o_vret)))))))
theorem sX6_giveUp : ∀ pc, Snd tX6_giveUp G1 pc (kX6_giveUp pc) := s_N (s_N (s_N (s_N (s_N (s_L (s_iconst dX6_giveUp_0 (by decide +kernel))) (s_L (s_istore_n dX6_giveUp_1 rfl (by decide)))) (s_N (s_L (s_iconst dX6_giveUp_2 (by decide +kernel))) (s_N (s_L (s_istore_n dX6_giveUp_3 rfl (by decide))) (s_L (s_iload_n dX6_giveUp_4 rfl))))) (s_N (s_N (s_L (s_aload_n dX6_giveUp_5 rfl)) (s_L (s_getf ok_5 (k := 5) (by decide) dX6_giveUp_6 qw_186))) (s_N (s_L (s_getf ok_4 (k := 0) (by decide) dX6_giveUp_9 qw_88)) (s_N (s_L (s_o_icmp_ge dX6_giveUp_12 (by decide))) (s_L (s_aload_n dX6_giveUp_15 rfl)))))) (s_N (s_N (s_N (s_L (s_getf ok_5 (k := 5) (by decide) dX6_giveUp_16 qw_186)) (s_L (s_getf ok_4 (k := 5) (by decide) dX6_giveUp_19 qw_101))) (s_N (s_L (s_iload_n dX6_giveUp_22 rfl)) (s_N (s_L (s_iald dX6_giveUp_23)) (s_L (s_aload_n dX6_giveUp_24 rfl))))) (s_N (s_N (s_L (s_getf ok_5 (k := 3) (by decide) dX6_giveUp_25 qw_182)) (s_N (s_L (s_iconst dX6_giveUp_28 (by decide +kernel))) (s_L (s_iald dX6_giveUp_29)))) (s_N (s_L (s_o_iadd dX6_giveUp_30)) (s_N (s_L (s_aload_n dX6_giveUp_31 rfl)) (s_L (s_getf ok_5 (k := 2) (by decide) dX6_giveUp_32 qw_180))))))) (s_N (s_N (s_N (s_N (s_L (s_o_icmp_ge dX6_giveUp_35 (by decide))) (s_L (s_aload_n dX6_giveUp_38 rfl))) (s_N (s_L (s_getf ok_5 (k := 7) (by decide) dX6_giveUp_39 qw_190)) (s_N (s_L (s_o_dup dX6_giveUp_42)) (s_L (s_getf ok_6 (k := 1) (by decide) dX6_giveUp_43 qw_145))))) (s_N (s_N (s_L (s_iconst dX6_giveUp_46 (by decide +kernel))) (s_N (s_L (s_o_iadd dX6_giveUp_47)) (s_L (s_puti ok_6 (k := 1) (by decide) rfl (Or.inl rfl) dX6_giveUp_48 qw_145)))) (s_N (s_L (s_o_goto dX6_giveUp_51 (by decide))) (s_N (s_L (s_aload_n dX6_giveUp_54 rfl)) (s_L (s_getf ok_5 (k := 5) (by decide) dX6_giveUp_55 qw_186)))))) (s_N (s_N (s_N (s_L (s_iload_n dX6_giveUp_58 rfl)) (s_L (s_iload_n dX6_giveUp_59 rfl))) (s_N (s_L (s_callV (d' := tX5_move) (mc := 0) (ms := 0) ok_4 cc_X6_giveUp_X5_move qw_562 qw_484 qw_485 dX6_giveUp_60)) (s_N (s_L (s_iinc (v := 1) dX6_giveUp_63 (by decide +kernel) (by decide))) (s_L (s_iinc (v := 1) dX6_giveUp_66 (by decide +kernel) (by decide)))))) (s_N (s_N (s_L (s_o_goto dX6_giveUp_69 (by decide))) (s_N (s_L (s_aload_n dX6_giveUp_72 rfl)) (s_L (s_getf ok_5 (k := 5) (by decide) dX6_giveUp_73 qw_186)))) (s_N (s_L (s_iload_n dX6_giveUp_76 rfl)) (s_N (s_L (s_puti ok_4 (k := 0) (by decide) rfl (Or.inl rfl) dX6_giveUp_77 qw_88)) (s_L (s_vret rfl dX6_giveUp_80)))))))
