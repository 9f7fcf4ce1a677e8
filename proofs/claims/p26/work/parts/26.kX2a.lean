/-! PlateArm$CommandScan.<init> -/
theorem dX2_init_0 : decode cX2_init 0 = .ok (.aload_n 0, 1) := by decide +kernel
theorem dX2_init_1 : decode cX2_init 1 = .ok (.invokespecial 3, 3) := by decide +kernel
theorem dX2_init_4 : decode cX2_init 4 = .ok (.aload_n 0, 1) := by decide +kernel
theorem dX2_init_5 : decode cX2_init 5 = .ok (.getstatic 9, 3) := by decide +kernel
theorem dX2_init_8 : decode cX2_init 8 = .ok (.putfield 15, 3) := by decide +kernel
theorem dX2_init_11 : decode cX2_init 11 = .ok (.aload_n 0, 1) := by decide +kernel
theorem dX2_init_12 : decode cX2_init 12 = .ok (.iconst 3, 1) := by decide +kernel
theorem dX2_init_13 : decode cX2_init 13 = .ok (.newarray .int, 2) := by decide +kernel
theorem dX2_init_15 : decode cX2_init 15 = .ok (.putfield 20, 3) := by decide +kernel
theorem dX2_init_18 : decode cX2_init 18 = .ok (.aload_n 0, 1) := by decide +kernel
theorem dX2_init_19 : decode cX2_init 19 = .ok (.iconst 0, 1) := by decide +kernel
theorem dX2_init_20 : decode cX2_init 20 = .ok (.putfield 24, 3) := by decide +kernel
theorem dX2_init_23 : decode cX2_init 23 = .ok (.return_, 1) := by decide +kernel
def kX2_init : Nat → WOp := cN 11 (cN 4 (cN 0 (cL 0 (o_aload 1 0)) (cN 1 (cL 1 (o_objinit 4)) (cL 4 (o_aload 5 0)))) (cN 5 (cL 5 (o_gets 8 (.float 0))) (cN 8 (cL 8 (o_putf 11 1 0 (.object "PlateArm$Word"))) (cL 11 (o_aload 12 0))))) (cN 15 (cN 12 (cL 12 (o_push 13 3)) (cN 13 (cL 13 (o_newa 15 0 3)) (cL 15 (o_putf 18 1 1 (.array .int))))) (cN 19 (cN 18 (cL 18 (o_aload 19 0)) (cL 19 (o_push 20 0))) (cN 20 (cL 20 (o_puti 23 1 2)) (cL 23 (o_vret)))))
theorem sX2_init : ∀ pc, Snd tX2_init G1 pc (kX2_init pc) := s_N (s_N (s_N (s_L (s_aload_n dX2_init_0 rfl)) (s_N (s_L (s_objinit qw_231 qw_39 qw_40 (by decide) (by decide) dX2_init_1)) (s_L (s_aload_n dX2_init_4 rfl)))) (s_N (s_L (s_gets (C := "PlateArm$Word") (nm := "UNKNOWN") (dsc := "LPlateArm$Word;") (by simp [EZ]) dX2_init_5 qw_232)) (s_N (s_L (s_putf ok_1 (k := 0) (by decide) rfl (Or.inl rfl) dX2_init_8 qw_234)) (s_L (s_aload_n dX2_init_11 rfl))))) (s_N (s_N (s_L (s_iconst dX2_init_12 (by decide +kernel))) (s_N (s_L (s_newa (t := 0) (N := 3) (ty := .int) rfl (by decide) (by decide) qw_79 dX2_init_13)) (s_L (s_putf ok_1 (k := 1) (by decide) rfl (Or.inr ⟨rfl, rfl, rfl⟩) dX2_init_15 qw_235)))) (s_N (s_N (s_L (s_aload_n dX2_init_18 rfl)) (s_L (s_iconst dX2_init_19 (by decide +kernel)))) (s_N (s_L (s_puti ok_1 (k := 2) (by decide) rfl (Or.inl rfl) dX2_init_20 qw_236)) (s_L (s_vret rfl dX2_init_23)))))
