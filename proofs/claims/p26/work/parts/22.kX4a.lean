/-! PlateArm$Log.<init> -/
theorem dX4_init_0 : decode cX4_init 0 = .ok (.aload_n 0, 1) := by decide +kernel
theorem dX4_init_1 : decode cX4_init 1 = .ok (.invokespecial 3, 3) := by decide +kernel
theorem dX4_init_4 : decode cX4_init 4 = .ok (.aload_n 0, 1) := by decide +kernel
theorem dX4_init_5 : decode cX4_init 5 = .ok (.bipush 50, 2) := by decide +kernel
theorem dX4_init_7 : decode cX4_init 7 = .ok (.newarray .int, 2) := by decide +kernel
theorem dX4_init_9 : decode cX4_init 9 = .ok (.putfield 11, 3) := by decide +kernel
theorem dX4_init_12 : decode cX4_init 12 = .ok (.return_, 1) := by decide +kernel
def kX4_init : Nat → WOp := cN 4 (cN 0 (cL 0 (o_aload 1 0)) (cN 1 (cL 1 (o_objinit 4)) (cL 4 (o_aload 5 0)))) (cN 7 (cN 5 (cL 5 (o_push 7 50)) (cL 7 (o_newa 9 0 50))) (cN 9 (cL 9 (o_putf 12 3 1 (.array .int))) (cL 12 (o_vret))))
theorem sX4_init : ∀ pc, Snd tX4_init G1 pc (kX4_init pc) := s_N (s_N (s_L (s_aload_n dX4_init_0 rfl)) (s_N (s_L (s_objinit qw_125 qw_39 qw_40 (by decide) (by decide) dX4_init_1)) (s_L (s_aload_n dX4_init_4 rfl)))) (s_N (s_N (s_L (s_bipush dX4_init_5 (by decide +kernel))) (s_L (s_newa (t := 0) (N := 50) (ty := .int) rfl (by decide) (by decide) qw_79 dX4_init_7))) (s_N (s_L (s_putf ok_3 (k := 1) (by decide) rfl (Or.inr ⟨rfl, rfl, rfl⟩) dX4_init_9 qw_128)) (s_L (s_vret rfl dX4_init_12))))
/-! PlateArm$Log.reset -/
theorem dX4_reset_0 : decode cX4_reset 0 = .ok (.aload_n 0, 1) := by decide +kernel
theorem dX4_reset_1 : decode cX4_reset 1 = .ok (.iconst 0, 1) := by decide +kernel
theorem dX4_reset_2 : decode cX4_reset 2 = .ok (.putfield 15, 3) := by decide +kernel
theorem dX4_reset_5 : decode cX4_reset 5 = .ok (.return_, 1) := by decide +kernel
def kX4_reset : Nat → WOp := cN 1 (cN 0 (cL 0 (o_aload 1 0)) (cL 1 (o_push 2 0))) (cN 2 (cL 2 (o_puti 5 3 0)) (cL 5 (o_vret)))
theorem sX4_reset : ∀ pc, Snd tX4_reset G1 pc (kX4_reset pc) := s_N (s_N (s_L (s_aload_n dX4_reset_0 rfl)) (s_L (s_iconst dX4_reset_1 (by decide +kernel)))) (s_N (s_L (s_puti ok_3 (k := 0) (by decide) rfl (Or.inl rfl) dX4_reset_2 qw_126)) (s_L (s_vret rfl dX4_reset_5)))
/-! PlateArm$Log.copyFrom -/
theorem dX4_copyFrom_0 : decode cX4_copyFrom 0 = .ok (.aload_n 0, 1) := by decide +kernel
theorem dX4_copyFrom_1 : decode cX4_copyFrom 1 = .ok (.aload_n 1, 1) := by decide +kernel
theorem dX4_copyFrom_2 : decode cX4_copyFrom 2 = .ok (.getfield 15, 3) := by decide +kernel
theorem dX4_copyFrom_5 : decode cX4_copyFrom 5 = .ok (.putfield 15, 3) := by decide +kernel
theorem dX4_copyFrom_8 : decode cX4_copyFrom 8 = .ok (.aload_n 1, 1) := by decide +kernel
theorem dX4_copyFrom_9 : decode cX4_copyFrom 9 = .ok (.getfield 11, 3) := by decide +kernel
theorem dX4_copyFrom_12 : decode cX4_copyFrom 12 = .ok (.iconst 0, 1) := by decide +kernel
theorem dX4_copyFrom_13 : decode cX4_copyFrom 13 = .ok (.aload_n 0, 1) := by decide +kernel
theorem dX4_copyFrom_14 : decode cX4_copyFrom 14 = .ok (.getfield 11, 3) := by decide +kernel
theorem dX4_copyFrom_17 : decode cX4_copyFrom 17 = .ok (.iconst 0, 1) := by decide +kernel
theorem dX4_copyFrom_18 : decode cX4_copyFrom 18 = .ok (.bipush 50, 2) := by decide +kernel
theorem dX4_copyFrom_20 : decode cX4_copyFrom 20 = .ok (.invokestatic 19, 3) := by decide +kernel
theorem dX4_copyFrom_23 : decode cX4_copyFrom 23 = .ok (.return_, 1) := by decide +kernel
def kX4_copyFrom : Nat → WOp := cN 9 (cN 2 (cN 0 (cL 0 (o_aload 1 0)) (cN 1 (cL 1 (o_aload 2 1)) (cL 2 (o_getf 5 3 0)))) (cN 5 (cL 5 (o_puti 8 3 0)) (cN 8 (cL 8 (o_aload 9 1)) (cL 9 (o_getf 12 3 1))))) (cN 14 (cN 12 (cL 12 (o_push 13 0)) (cN 13 (cL 13 (o_aload 14 0)) (cL 14 (o_getf 17 3 1)))) (cN 18 (cN 17 (cL 17 (o_push 18 0)) (cL 18 (o_push 20 50))) (cN 20 (cL 20 (o_copy 23)) (cL 23 (o_vret)))))
theorem sX4_copyFrom : ∀ pc, Snd tX4_copyFrom G1 pc (kX4_copyFrom pc) := s_N (s_N (s_N (s_L (s_aload_n dX4_copyFrom_0 rfl)) (s_N (s_L (s_aload_n dX4_copyFrom_1 rfl)) (s_L (s_getf ok_3 (k := 0) (by decide) dX4_copyFrom_2 qw_126)))) (s_N (s_L (s_puti ok_3 (k := 0) (by decide) rfl (Or.inl rfl) dX4_copyFrom_5 qw_126)) (s_N (s_L (s_aload_n dX4_copyFrom_8 rfl)) (s_L (s_getf ok_3 (k := 1) (by decide) dX4_copyFrom_9 qw_128))))) (s_N (s_N (s_L (s_iconst dX4_copyFrom_12 (by decide +kernel))) (s_N (s_L (s_aload_n dX4_copyFrom_13 rfl)) (s_L (s_getf ok_3 (k := 1) (by decide) dX4_copyFrom_14 qw_128)))) (s_N (s_N (s_L (s_iconst dX4_copyFrom_17 (by decide +kernel))) (s_L (s_bipush dX4_copyFrom_18 (by decide +kernel)))) (s_N (s_L (s_copy qw_386 qw_372 qw_371 qw_31 (by decide) (by decide +kernel) dX4_copyFrom_20)) (s_L (s_vret rfl dX4_copyFrom_23)))))
/-! PlateArm$Log.kept -/
theorem dX4_kept_0 : decode cX4_kept 0 = .ok (.aload_n 0, 1) := by decide +kernel
theorem dX4_kept_1 : decode cX4_kept 1 = .ok (.getfield 15, 3) := by decide +kernel
theorem dX4_kept_4 : decode cX4_kept 4 = .ok (.bipush 10, 2) := by decide +kernel
theorem dX4_kept_6 : decode cX4_kept 6 = .ok (.invokestatic 25, 3) := by decide +kernel
theorem dX4_kept_9 : decode cX4_kept 9 = .ok (.ireturn, 1) := by decide +kernel
def kX4_kept : Nat → WOp := cN 1 (cN 0 (cL 0 (o_aload 1 0)) (cL 1 (o_getf 4 3 0))) (cN 4 (cL 4 (o_push 6 10)) (cN 6 (cL 6 (o_mmin 9)) (cL 9 (o_iret))))
theorem sX4_kept : ∀ pc, Snd tX4_kept G1 pc (kX4_kept pc) := s_N (s_N (s_L (s_aload_n dX4_kept_0 rfl)) (s_L (s_getf ok_3 (k := 0) (by decide) dX4_kept_1 qw_126))) (s_N (s_L (s_bipush dX4_kept_4 (by decide +kernel))) (s_N (s_L (s_mmin qw_639 qw_640 qw_30 qw_641 (by decide) (by decide) dX4_kept_6)) (s_L (s_iret rfl dX4_kept_9))))
/-! PlateArm$Log.write -/
theorem dX4_write_0 : decode cX4_write 0 = .ok (.aload_n 0, 1) := by decide +kernel
theorem dX4_write_1 : decode cX4_write 1 = .ok (.getfield 15, 3) := by decide +kernel
theorem dX4_write_4 : decode cX4_write 4 = .ok (.bipush 10, 2) := by decide +kernel
theorem dX4_write_6 : decode cX4_write 6 = .ok (.irem, 1) := by decide +kernel
theorem dX4_write_7 : decode cX4_write 7 = .ok (.iconst 5, 1) := by decide +kernel
theorem dX4_write_8 : decode cX4_write 8 = .ok (.imul, 1) := by decide +kernel
theorem dX4_write_9 : decode cX4_write 9 = .ok (.istore 6, 2) := by decide +kernel
theorem dX4_write_11 : decode cX4_write 11 = .ok (.aload_n 0, 1) := by decide +kernel
theorem dX4_write_12 : decode cX4_write 12 = .ok (.getfield 11, 3) := by decide +kernel
theorem dX4_write_15 : decode cX4_write 15 = .ok (.iload 6, 2) := by decide +kernel
theorem dX4_write_17 : decode cX4_write 17 = .ok (.iload_n 1, 1) := by decide +kernel
theorem dX4_write_18 : decode cX4_write 18 = .ok (.iastore, 1) := by decide +kernel
theorem dX4_write_19 : decode cX4_write 19 = .ok (.aload_n 0, 1) := by decide +kernel
theorem dX4_write_20 : decode cX4_write 20 = .ok (.getfield 11, 3) := by decide +kernel
theorem dX4_write_23 : decode cX4_write 23 = .ok (.iload 6, 2) := by decide +kernel
theorem dX4_write_25 : decode cX4_write 25 = .ok (.iconst 1, 1) := by decide +kernel
theorem dX4_write_26 : decode cX4_write 26 = .ok (.iadd, 1) := by decide +kernel
theorem dX4_write_27 : decode cX4_write 27 = .ok (.iload_n 2, 1) := by decide +kernel
theorem dX4_write_28 : decode cX4_write 28 = .ok (.iastore, 1) := by decide +kernel
theorem dX4_write_29 : decode cX4_write 29 = .ok (.aload_n 0, 1) := by decide +kernel
theorem dX4_write_30 : decode cX4_write 30 = .ok (.getfield 11, 3) := by decide +kernel
theorem dX4_write_33 : decode cX4_write 33 = .ok (.iload 6, 2) := by decide +kernel
theorem dX4_write_35 : decode cX4_write 35 = .ok (.iconst 2, 1) := by decide +kernel
theorem dX4_write_36 : decode cX4_write 36 = .ok (.iadd, 1) := by decide +kernel
theorem dX4_write_37 : decode cX4_write 37 = .ok (.iload_n 3, 1) := by decide +kernel
theorem dX4_write_38 : decode cX4_write 38 = .ok (.iastore, 1) := by decide +kernel
theorem dX4_write_39 : decode cX4_write 39 = .ok (.aload_n 0, 1) := by decide +kernel
theorem dX4_write_40 : decode cX4_write 40 = .ok (.getfield 11, 3) := by decide +kernel
theorem dX4_write_43 : decode cX4_write 43 = .ok (.iload 6, 2) := by decide +kernel
theorem dX4_write_45 : decode cX4_write 45 = .ok (.iconst 3, 1) := by decide +kernel
theorem dX4_write_46 : decode cX4_write 46 = .ok (.iadd, 1) := by decide +kernel
theorem dX4_write_47 : decode cX4_write 47 = .ok (.iload 4, 2) := by decide +kernel
theorem dX4_write_49 : decode cX4_write 49 = .ok (.iastore, 1) := by decide +kernel
theorem dX4_write_50 : decode cX4_write 50 = .ok (.aload_n 0, 1) := by decide +kernel
theorem dX4_write_51 : decode cX4_write 51 = .ok (.getfield 11, 3) := by decide +kernel
theorem dX4_write_54 : decode cX4_write 54 = .ok (.iload 6, 2) := by decide +kernel
theorem dX4_write_56 : decode cX4_write 56 = .ok (.iconst 4, 1) := by decide +kernel
theorem dX4_write_57 : decode cX4_write 57 = .ok (.iadd, 1) := by decide +kernel
theorem dX4_write_58 : decode cX4_write 58 = .ok (.iload 5, 2) := by decide +kernel
theorem dX4_write_60 : decode cX4_write 60 = .ok (.ifCond .eq 7, 3) := by decide +kernel
theorem dX4_write_63 : decode cX4_write 63 = .ok (.iconst 1, 1) := by decide +kernel
theorem dX4_write_64 : decode cX4_write 64 = .ok (.goto 4, 3) := by decide +kernel
theorem dX4_write_67 : decode cX4_write 67 = .ok (.iconst 0, 1) := by decide +kernel
theorem dX4_write_68 : decode cX4_write 68 = .ok (.iastore, 1) := by decide +kernel
theorem dX4_write_69 : decode cX4_write 69 = .ok (.aload_n 0, 1) := by decide +kernel
theorem dX4_write_70 : decode cX4_write 70 = .ok (.dup, 1) := by decide +kernel
theorem dX4_write_71 : decode cX4_write 71 = .ok (.getfield 15, 3) := by decide +kernel
theorem dX4_write_74 : decode cX4_write 74 = .ok (.iconst 1, 1) := by decide +kernel
theorem dX4_write_75 : decode cX4_write 75 = .ok (.iadd, 1) := by decide +kernel
theorem dX4_write_76 : decode cX4_write 76 = .ok (.putfield 15, 3) := by decide +kernel
theorem dX4_write_79 : decode cX4_write 79 = .ok (.return_, 1) := by decide +kernel
def kX4_write : Nat → WOp := cN 37 (cN 18 (cN 8 (cN 4 (cN 0 (cL 0 (o_aload 1 0)) (cN 1 (cL 1 (o_getf 4 3 0)) (cL 4 (o_push 6 10)))) (cN 6 (cL 6 (o_irem 7)) (cN 7 (cL 7 (o_push 8 5)) (cL 8 (o_imul 9))))) (cN 12 (cN 9 (cL 9 (o_istore 11 6)) (cN 11 (cL 11 (o_aload 12 0)) (cL 12 (o_getf 15 3 1)))) (cN 15 (cL 15 (o_iload 17 6)) (cN 17 (cL 17 (o_iload 18 1)) (cL 18 (o_iast 19)))))) (cN 27 (cN 23 (cN 19 (cL 19 (o_aload 20 0)) (cN 20 (cL 20 (o_getf 23 3 1)) (cL 23 (o_iload 25 6)))) (cN 25 (cL 25 (o_push 26 1)) (cN 26 (cL 26 (o_iadd 27)) (cL 27 (o_iload 28 2))))) (cN 30 (cN 28 (cL 28 (o_iast 29)) (cN 29 (cL 29 (o_aload 30 0)) (cL 30 (o_getf 33 3 1)))) (cN 35 (cN 33 (cL 33 (o_iload 35 6)) (cL 35 (o_push 36 2))) (cN 36 (cL 36 (o_iadd 37)) (cL 37 (o_iload 38 3))))))) (cN 57 (cN 46 (cN 40 (cN 38 (cL 38 (o_iast 39)) (cN 39 (cL 39 (o_aload 40 0)) (cL 40 (o_getf 43 3 1)))) (cN 43 (cL 43 (o_iload 45 6)) (cN 45 (cL 45 (o_push 46 3)) (cL 46 (o_iadd 47))))) (cN 50 (cN 47 (cL 47 (o_iload 49 4)) (cN 49 (cL 49 (o_iast 50)) (cL 50 (o_aload 51 0)))) (cN 54 (cN 51 (cL 51 (o_getf 54 3 1)) (cL 54 (o_iload 56 6))) (cN 56 (cL 56 (o_push 57 4)) (cL 57 (o_iadd 58)))))) (cN 68 (cN 63 (cN 58 (cL 58 (o_iload 60 5)) (cN 60 (cL 60 (o_if_eq 67 63)) (cL 63 (o_push 64 1)))) (cN 64 (cL 64 (o_goto 68)) (cN 67 (cL 67 (o_push 68 0)) (cL 68 (o_iast 69))))) (cN 71 (cN 69 (cL 69 (o_aload 70 0)) (cN 70 (cL 70 (o_dup 71)) (cL 71 (o_getf 74 3 0)))) (cN 75 (cN 74 (cL 74 (o_push 75 1)) (cL 75 (o_iadd 76))) (cN 76 (cL 76 (o_puti 79 3 0)) (cL 79 (o_vret)))))))
theorem sX4_write : ∀ pc, Snd tX4_write G1 pc (kX4_write pc) := s_N (s_N (s_N (s_N (s_N (s_L (s_aload_n dX4_write_0 rfl)) (s_N (s_L (s_getf ok_3 (k := 0) (by decide) dX4_write_1 qw_126)) (s_L (s_bipush dX4_write_4 (by decide +kernel))))) (s_N (s_L (s_o_irem dX4_write_6)) (s_N (s_L (s_iconst dX4_write_7 (by decide +kernel))) (s_L (s_o_imul dX4_write_8))))) (s_N (s_N (s_L (s_istore dX4_write_9 (by decide))) (s_N (s_L (s_aload_n dX4_write_11 rfl)) (s_L (s_getf ok_3 (k := 1) (by decide) dX4_write_12 qw_128)))) (s_N (s_L (s_iload dX4_write_15)) (s_N (s_L (s_iload_n dX4_write_17 rfl)) (s_L (s_iast dX4_write_18)))))) (s_N (s_N (s_N (s_L (s_aload_n dX4_write_19 rfl)) (s_N (s_L (s_getf ok_3 (k := 1) (by decide) dX4_write_20 qw_128)) (s_L (s_iload dX4_write_23)))) (s_N (s_L (s_iconst dX4_write_25 (by decide +kernel))) (s_N (s_L (s_o_iadd dX4_write_26)) (s_L (s_iload_n dX4_write_27 rfl))))) (s_N (s_N (s_L (s_iast dX4_write_28)) (s_N (s_L (s_aload_n dX4_write_29 rfl)) (s_L (s_getf ok_3 (k := 1) (by decide) dX4_write_30 qw_128)))) (s_N (s_N (s_L (s_iload dX4_write_33)) (s_L (s_iconst dX4_write_35 (by decide +kernel)))) (s_N (s_L (s_o_iadd dX4_write_36)) (s_L (s_iload_n dX4_write_37 rfl))))))) (s_N (s_N (s_N (s_N (s_L (s_iast dX4_write_38)) (s_N (s_L (s_aload_n dX4_write_39 rfl)) (s_L (s_getf ok_3 (k := 1) (by decide) dX4_write_40 qw_128)))) (s_N (s_L (s_iload dX4_write_43)) (s_N (s_L (s_iconst dX4_write_45 (by decide +kernel))) (s_L (s_o_iadd dX4_write_46))))) (s_N (s_N (s_L (s_iload dX4_write_47)) (s_N (s_L (s_iast dX4_write_49)) (s_L (s_aload_n dX4_write_50 rfl)))) (s_N (s_N (s_L (s_getf ok_3 (k := 1) (by decide) dX4_write_51 qw_128)) (s_L (s_iload dX4_write_54))) (s_N (s_L (s_iconst dX4_write_56 (by decide +kernel))) (s_L (s_o_iadd dX4_write_57)))))) (s_N (s_N (s_N (s_L (s_iload dX4_write_58)) (s_N (s_L (s_o_if_eq dX4_write_60 (by decide))) (s_L (s_iconst dX4_write_63 (by decide +kernel))))) (s_N (s_L (s_o_goto dX4_write_64 (by decide))) (s_N (s_L (s_iconst dX4_write_67 (by decide +kernel))) (s_L (s_iast dX4_write_68))))) (s_N (s_N (s_L (s_aload_n dX4_write_69 rfl)) (s_N (s_L (s_o_dup dX4_write_70)) (s_L (s_getf ok_3 (k := 0) (by decide) dX4_write_71 qw_126)))) (s_N (s_N (s_L (s_iconst dX4_write_74 (by decide +kernel))) (s_L (s_o_iadd dX4_write_75))) (s_N (s_L (s_puti ok_3 (k := 0) (by decide) rfl (Or.inl rfl) dX4_write_76 qw_126)) (s_L (s_vret rfl dX4_write_79)))))))
/-! PlateArm$Log.valueOf -/
theorem dX4_valueOf_0 : decode cX4_valueOf 0 = .ok (.aload_n 0, 1) := by decide +kernel
theorem dX4_valueOf_1 : decode cX4_valueOf 1 = .ok (.getfield 11, 3) := by decide +kernel
theorem dX4_valueOf_4 : decode cX4_valueOf 4 = .ok (.aload_n 0, 1) := by decide +kernel
theorem dX4_valueOf_5 : decode cX4_valueOf 5 = .ok (.getfield 15, 3) := by decide +kernel
theorem dX4_valueOf_8 : decode cX4_valueOf 8 = .ok (.iconst 1, 1) := by decide +kernel
theorem dX4_valueOf_9 : decode cX4_valueOf 9 = .ok (.isub, 1) := by decide +kernel
theorem dX4_valueOf_10 : decode cX4_valueOf 10 = .ok (.iload_n 1, 1) := by decide +kernel
theorem dX4_valueOf_11 : decode cX4_valueOf 11 = .ok (.isub, 1) := by decide +kernel
theorem dX4_valueOf_12 : decode cX4_valueOf 12 = .ok (.bipush 10, 2) := by decide +kernel
theorem dX4_valueOf_14 : decode cX4_valueOf 14 = .ok (.irem, 1) := by decide +kernel
theorem dX4_valueOf_15 : decode cX4_valueOf 15 = .ok (.iconst 5, 1) := by decide +kernel
theorem dX4_valueOf_16 : decode cX4_valueOf 16 = .ok (.imul, 1) := by decide +kernel
theorem dX4_valueOf_17 : decode cX4_valueOf 17 = .ok (.iload_n 2, 1) := by decide +kernel
theorem dX4_valueOf_18 : decode cX4_valueOf 18 = .ok (.iadd, 1) := by decide +kernel
theorem dX4_valueOf_19 : decode cX4_valueOf 19 = .ok (.iaload, 1) := by decide +kernel
theorem dX4_valueOf_20 : decode cX4_valueOf 20 = .ok (.ireturn, 1) := by decide +kernel
def kX4_valueOf : Nat → WOp := cN 11 (cN 5 (cN 1 (cN 0 (cL 0 (o_aload 1 0)) (cL 1 (o_getf 4 3 1))) (cN 4 (cL 4 (o_aload 5 0)) (cL 5 (o_getf 8 3 0)))) (cN 9 (cN 8 (cL 8 (o_push 9 1)) (cL 9 (o_isub 10))) (cN 10 (cL 10 (o_iload 11 1)) (cL 11 (o_isub 12))))) (cN 16 (cN 14 (cN 12 (cL 12 (o_push 14 10)) (cL 14 (o_irem 15))) (cN 15 (cL 15 (o_push 16 5)) (cL 16 (o_imul 17)))) (cN 18 (cN 17 (cL 17 (o_iload 18 2)) (cL 18 (o_iadd 19))) (cN 19 (cL 19 (o_iald 20)) (cL 20 (o_iret)))))
theorem sX4_valueOf : ∀ pc, Snd tX4_valueOf G1 pc (kX4_valueOf pc) := s_N (s_N (s_N (s_N (s_L (s_aload_n dX4_valueOf_0 rfl)) (s_L (s_getf ok_3 (k := 1) (by decide) dX4_valueOf_1 qw_128))) (s_N (s_L (s_aload_n dX4_valueOf_4 rfl)) (s_L (s_getf ok_3 (k := 0) (by decide) dX4_valueOf_5 qw_126)))) (s_N (s_N (s_L (s_iconst dX4_valueOf_8 (by decide +kernel))) (s_L (s_o_isub dX4_valueOf_9))) (s_N (s_L (s_iload_n dX4_valueOf_10 rfl)) (s_L (s_o_isub dX4_valueOf_11))))) (s_N (s_N (s_N (s_L (s_bipush dX4_valueOf_12 (by decide +kernel))) (s_L (s_o_irem dX4_valueOf_14))) (s_N (s_L (s_iconst dX4_valueOf_15 (by decide +kernel))) (s_L (s_o_imul dX4_valueOf_16)))) (s_N (s_N (s_L (s_iload_n dX4_valueOf_17 rfl)) (s_L (s_o_iadd dX4_valueOf_18))) (s_N (s_L (s_iald dX4_valueOf_19)) (s_L (s_iret rfl dX4_valueOf_20)))))
