/-! PlateArm$CommandText.<init> -/
theorem dX3_init_0 : decode cX3_init 0 = .ok (.aload_n 0, 1) := by decide +kernel
theorem dX3_init_1 : decode cX3_init 1 = .ok (.invokespecial 3, 3) := by decide +kernel
theorem dX3_init_4 : decode cX3_init 4 = .ok (.aload_n 0, 1) := by decide +kernel
theorem dX3_init_5 : decode cX3_init 5 = .ok (.sipush 150, 3) := by decide +kernel
theorem dX3_init_8 : decode cX3_init 8 = .ok (.newarray .byte, 2) := by decide +kernel
theorem dX3_init_10 : decode cX3_init 10 = .ok (.putfield 11, 3) := by decide +kernel
theorem dX3_init_13 : decode cX3_init 13 = .ok (.return_, 1) := by decide +kernel
def kX3_init : Nat → WOp := cN 4 (cN 0 (cL 0 (o_aload 1 0)) (cN 1 (cL 1 (o_objinit 4)) (cL 4 (o_aload 5 0)))) (cN 8 (cN 5 (cL 5 (o_push 8 150)) (cL 8 (o_newa 10 1 150))) (cN 10 (cL 10 (o_putf 13 2 1 (.array .byte))) (cL 13 (o_vret))))
theorem sX3_init : ∀ pc, Snd tX3_init G1 pc (kX3_init pc) := s_N (s_N (s_L (s_aload_n dX3_init_0 rfl)) (s_N (s_L (s_objinit qw_217 qw_39 qw_40 (by decide) (by decide) dX3_init_1)) (s_L (s_aload_n dX3_init_4 rfl)))) (s_N (s_N (s_L (s_sipush dX3_init_5 (by decide +kernel))) (s_L (s_newa (t := 1) (N := 150) (ty := .byte) rfl (by decide) (by decide) qw_225 dX3_init_8))) (s_N (s_L (s_putf ok_2 (k := 1) (by decide) rfl (Or.inr ⟨rfl, rfl, rfl⟩) dX3_init_10 qw_219)) (s_L (s_vret rfl dX3_init_13))))
