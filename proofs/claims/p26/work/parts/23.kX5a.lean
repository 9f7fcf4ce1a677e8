/-! PlateArm$Requests.<init> -/
theorem dX5_init_0 : decode cX5_init 0 = .ok (.aload_n 0, 1) := by decide +kernel
theorem dX5_init_1 : decode cX5_init 1 = .ok (.invokespecial 3, 3) := by decide +kernel
theorem dX5_init_4 : decode cX5_init 4 = .ok (.aload_n 0, 1) := by decide +kernel
theorem dX5_init_5 : decode cX5_init 5 = .ok (.bipush 12, 2) := by decide +kernel
theorem dX5_init_7 : decode cX5_init 7 = .ok (.newarray .int, 2) := by decide +kernel
theorem dX5_init_9 : decode cX5_init 9 = .ok (.putfield 11, 3) := by decide +kernel
theorem dX5_init_12 : decode cX5_init 12 = .ok (.aload_n 0, 1) := by decide +kernel
theorem dX5_init_13 : decode cX5_init 13 = .ok (.bipush 12, 2) := by decide +kernel
theorem dX5_init_15 : decode cX5_init 15 = .ok (.newarray .int, 2) := by decide +kernel
theorem dX5_init_17 : decode cX5_init 17 = .ok (.putfield 15, 3) := by decide +kernel
theorem dX5_init_20 : decode cX5_init 20 = .ok (.aload_n 0, 1) := by decide +kernel
theorem dX5_init_21 : decode cX5_init 21 = .ok (.bipush 12, 2) := by decide +kernel
theorem dX5_init_23 : decode cX5_init 23 = .ok (.newarray .int, 2) := by decide +kernel
theorem dX5_init_25 : decode cX5_init 25 = .ok (.putfield 18, 3) := by decide +kernel
theorem dX5_init_28 : decode cX5_init 28 = .ok (.aload_n 0, 1) := by decide +kernel
theorem dX5_init_29 : decode cX5_init 29 = .ok (.bipush 12, 2) := by decide +kernel
theorem dX5_init_31 : decode cX5_init 31 = .ok (.newarray .int, 2) := by decide +kernel
theorem dX5_init_33 : decode cX5_init 33 = .ok (.putfield 21, 3) := by decide +kernel
theorem dX5_init_36 : decode cX5_init 36 = .ok (.aload_n 0, 1) := by decide +kernel
theorem dX5_init_37 : decode cX5_init 37 = .ok (.bipush 12, 2) := by decide +kernel
theorem dX5_init_39 : decode cX5_init 39 = .ok (.newarray .int, 2) := by decide +kernel
theorem dX5_init_41 : decode cX5_init 41 = .ok (.putfield 24, 3) := by decide +kernel
theorem dX5_init_44 : decode cX5_init 44 = .ok (.return_, 1) := by decide +kernel
def kX5_init : Nat → WOp := cN 20 (cN 7 (cN 1 (cN 0 (cL 0 (o_aload 1 0)) (cL 1 (o_objinit 4))) (cN 4 (cL 4 (o_aload 5 0)) (cN 5 (cL 5 (o_push 7 12)) (cL 7 (o_newa 9 0 12))))) (cN 13 (cN 9 (cL 9 (o_putf 12 4 2 (.array .int))) (cN 12 (cL 12 (o_aload 13 0)) (cL 13 (o_push 15 12)))) (cN 15 (cL 15 (o_newa 17 0 12)) (cN 17 (cL 17 (o_putf 20 4 3 (.array .int))) (cL 20 (o_aload 21 0)))))) (cN 31 (cN 25 (cN 21 (cL 21 (o_push 23 12)) (cN 23 (cL 23 (o_newa 25 0 12)) (cL 25 (o_putf 28 4 4 (.array .int))))) (cN 28 (cL 28 (o_aload 29 0)) (cN 29 (cL 29 (o_push 31 12)) (cL 31 (o_newa 33 0 12))))) (cN 37 (cN 33 (cL 33 (o_putf 36 4 5 (.array .int))) (cN 36 (cL 36 (o_aload 37 0)) (cL 37 (o_push 39 12)))) (cN 39 (cL 39 (o_newa 41 0 12)) (cN 41 (cL 41 (o_putf 44 4 6 (.array .int))) (cL 44 (o_vret))))))
theorem sX5_init : ∀ pc, Snd tX5_init G1 pc (kX5_init pc) := s_N (s_N (s_N (s_N (s_L (s_aload_n dX5_init_0 rfl)) (s_L (s_objinit qw_85 qw_39 qw_40 (by decide) (by decide) dX5_init_1))) (s_N (s_L (s_aload_n dX5_init_4 rfl)) (s_N (s_L (s_bipush dX5_init_5 (by decide +kernel))) (s_L (s_newa (t := 0) (N := 12) (ty := .int) rfl (by decide) (by decide) qw_79 dX5_init_7))))) (s_N (s_N (s_L (s_putf ok_4 (k := 2) (by decide) rfl (Or.inr ⟨rfl, rfl, rfl⟩) dX5_init_9 qw_91)) (s_N (s_L (s_aload_n dX5_init_12 rfl)) (s_L (s_bipush dX5_init_13 (by decide +kernel))))) (s_N (s_L (s_newa (t := 0) (N := 12) (ty := .int) rfl (by decide) (by decide) qw_79 dX5_init_15)) (s_N (s_L (s_putf ok_4 (k := 3) (by decide) rfl (Or.inr ⟨rfl, rfl, rfl⟩) dX5_init_17 qw_94)) (s_L (s_aload_n dX5_init_20 rfl)))))) (s_N (s_N (s_N (s_L (s_bipush dX5_init_21 (by decide +kernel))) (s_N (s_L (s_newa (t := 0) (N := 12) (ty := .int) rfl (by decide) (by decide) qw_79 dX5_init_23)) (s_L (s_putf ok_4 (k := 4) (by decide) rfl (Or.inr ⟨rfl, rfl, rfl⟩) dX5_init_25 qw_97)))) (s_N (s_L (s_aload_n dX5_init_28 rfl)) (s_N (s_L (s_bipush dX5_init_29 (by decide +kernel))) (s_L (s_newa (t := 0) (N := 12) (ty := .int) rfl (by decide) (by decide) qw_79 dX5_init_31))))) (s_N (s_N (s_L (s_putf ok_4 (k := 5) (by decide) rfl (Or.inr ⟨rfl, rfl, rfl⟩) dX5_init_33 qw_100)) (s_N (s_L (s_aload_n dX5_init_36 rfl)) (s_L (s_bipush dX5_init_37 (by decide +kernel))))) (s_N (s_L (s_newa (t := 0) (N := 12) (ty := .int) rfl (by decide) (by decide) qw_79 dX5_init_39)) (s_N (s_L (s_putf ok_4 (k := 6) (by decide) rfl (Or.inr ⟨rfl, rfl, rfl⟩) dX5_init_41 qw_103)) (s_L (s_vret rfl dX5_init_44))))))
/-! PlateArm$Requests.reset -/
theorem dX5_reset_0 : decode cX5_reset 0 = .ok (.aload_n 0, 1) := by decide +kernel
theorem dX5_reset_1 : decode cX5_reset 1 = .ok (.iconst 0, 1) := by decide +kernel
theorem dX5_reset_2 : decode cX5_reset 2 = .ok (.putfield 27, 3) := by decide +kernel
theorem dX5_reset_5 : decode cX5_reset 5 = .ok (.aload_n 0, 1) := by decide +kernel
theorem dX5_reset_6 : decode cX5_reset 6 = .ok (.iconst 0, 1) := by decide +kernel
theorem dX5_reset_7 : decode cX5_reset 7 = .ok (.putfield 31, 3) := by decide +kernel
theorem dX5_reset_10 : decode cX5_reset 10 = .ok (.return_, 1) := by decide +kernel
def kX5_reset : Nat → WOp := cN 2 (cN 0 (cL 0 (o_aload 1 0)) (cN 1 (cL 1 (o_push 2 0)) (cL 2 (o_puti 5 4 0)))) (cN 6 (cN 5 (cL 5 (o_aload 6 0)) (cL 6 (o_push 7 0))) (cN 7 (cL 7 (o_puti 10 4 1)) (cL 10 (o_vret))))
theorem sX5_reset : ∀ pc, Snd tX5_reset G1 pc (kX5_reset pc) := s_N (s_N (s_L (s_aload_n dX5_reset_0 rfl)) (s_N (s_L (s_iconst dX5_reset_1 (by decide +kernel))) (s_L (s_puti ok_4 (k := 0) (by decide) rfl (Or.inl rfl) dX5_reset_2 qw_86)))) (s_N (s_N (s_L (s_aload_n dX5_reset_5 rfl)) (s_L (s_iconst dX5_reset_6 (by decide +kernel)))) (s_N (s_L (s_puti ok_4 (k := 1) (by decide) rfl (Or.inl rfl) dX5_reset_7 qw_89)) (s_L (s_vret rfl dX5_reset_10))))
/-! PlateArm$Requests.copyFrom -/
theorem dX5_copyFrom_0 : decode cX5_copyFrom 0 = .ok (.aload_n 0, 1) := by decide +kernel
theorem dX5_copyFrom_1 : decode cX5_copyFrom 1 = .ok (.aload_n 1, 1) := by decide +kernel
theorem dX5_copyFrom_2 : decode cX5_copyFrom 2 = .ok (.getfield 27, 3) := by decide +kernel
theorem dX5_copyFrom_5 : decode cX5_copyFrom 5 = .ok (.putfield 27, 3) := by decide +kernel
theorem dX5_copyFrom_8 : decode cX5_copyFrom 8 = .ok (.aload_n 0, 1) := by decide +kernel
theorem dX5_copyFrom_9 : decode cX5_copyFrom 9 = .ok (.aload_n 1, 1) := by decide +kernel
theorem dX5_copyFrom_10 : decode cX5_copyFrom 10 = .ok (.getfield 31, 3) := by decide +kernel
theorem dX5_copyFrom_13 : decode cX5_copyFrom 13 = .ok (.putfield 31, 3) := by decide +kernel
theorem dX5_copyFrom_16 : decode cX5_copyFrom 16 = .ok (.aload_n 1, 1) := by decide +kernel
theorem dX5_copyFrom_17 : decode cX5_copyFrom 17 = .ok (.getfield 11, 3) := by decide +kernel
theorem dX5_copyFrom_20 : decode cX5_copyFrom 20 = .ok (.iconst 0, 1) := by decide +kernel
theorem dX5_copyFrom_21 : decode cX5_copyFrom 21 = .ok (.aload_n 0, 1) := by decide +kernel
theorem dX5_copyFrom_22 : decode cX5_copyFrom 22 = .ok (.getfield 11, 3) := by decide +kernel
theorem dX5_copyFrom_25 : decode cX5_copyFrom 25 = .ok (.iconst 0, 1) := by decide +kernel
theorem dX5_copyFrom_26 : decode cX5_copyFrom 26 = .ok (.bipush 12, 2) := by decide +kernel
theorem dX5_copyFrom_28 : decode cX5_copyFrom 28 = .ok (.invokestatic 34, 3) := by decide +kernel
theorem dX5_copyFrom_31 : decode cX5_copyFrom 31 = .ok (.aload_n 1, 1) := by decide +kernel
theorem dX5_copyFrom_32 : decode cX5_copyFrom 32 = .ok (.getfield 15, 3) := by decide +kernel
theorem dX5_copyFrom_35 : decode cX5_copyFrom 35 = .ok (.iconst 0, 1) := by decide +kernel
theorem dX5_copyFrom_36 : decode cX5_copyFrom 36 = .ok (.aload_n 0, 1) := by decide +kernel
theorem dX5_copyFrom_37 : decode cX5_copyFrom 37 = .ok (.getfield 15, 3) := by decide +kernel
theorem dX5_copyFrom_40 : decode cX5_copyFrom 40 = .ok (.iconst 0, 1) := by decide +kernel
theorem dX5_copyFrom_41 : decode cX5_copyFrom 41 = .ok (.bipush 12, 2) := by decide +kernel
theorem dX5_copyFrom_43 : decode cX5_copyFrom 43 = .ok (.invokestatic 34, 3) := by decide +kernel
theorem dX5_copyFrom_46 : decode cX5_copyFrom 46 = .ok (.aload_n 1, 1) := by decide +kernel
theorem dX5_copyFrom_47 : decode cX5_copyFrom 47 = .ok (.getfield 18, 3) := by decide +kernel
theorem dX5_copyFrom_50 : decode cX5_copyFrom 50 = .ok (.iconst 0, 1) := by decide +kernel
theorem dX5_copyFrom_51 : decode cX5_copyFrom 51 = .ok (.aload_n 0, 1) := by decide +kernel
theorem dX5_copyFrom_52 : decode cX5_copyFrom 52 = .ok (.getfield 18, 3) := by decide +kernel
theorem dX5_copyFrom_55 : decode cX5_copyFrom 55 = .ok (.iconst 0, 1) := by decide +kernel
theorem dX5_copyFrom_56 : decode cX5_copyFrom 56 = .ok (.bipush 12, 2) := by decide +kernel
theorem dX5_copyFrom_58 : decode cX5_copyFrom 58 = .ok (.invokestatic 34, 3) := by decide +kernel
theorem dX5_copyFrom_61 : decode cX5_copyFrom 61 = .ok (.aload_n 1, 1) := by decide +kernel
theorem dX5_copyFrom_62 : decode cX5_copyFrom 62 = .ok (.getfield 21, 3) := by decide +kernel
theorem dX5_copyFrom_65 : decode cX5_copyFrom 65 = .ok (.iconst 0, 1) := by decide +kernel
theorem dX5_copyFrom_66 : decode cX5_copyFrom 66 = .ok (.aload_n 0, 1) := by decide +kernel
theorem dX5_copyFrom_67 : decode cX5_copyFrom 67 = .ok (.getfield 21, 3) := by decide +kernel
theorem dX5_copyFrom_70 : decode cX5_copyFrom 70 = .ok (.iconst 0, 1) := by decide +kernel
theorem dX5_copyFrom_71 : decode cX5_copyFrom 71 = .ok (.bipush 12, 2) := by decide +kernel
theorem dX5_copyFrom_73 : decode cX5_copyFrom 73 = .ok (.invokestatic 34, 3) := by decide +kernel
theorem dX5_copyFrom_76 : decode cX5_copyFrom 76 = .ok (.aload_n 1, 1) := by decide +kernel
theorem dX5_copyFrom_77 : decode cX5_copyFrom 77 = .ok (.getfield 24, 3) := by decide +kernel
theorem dX5_copyFrom_80 : decode cX5_copyFrom 80 = .ok (.iconst 0, 1) := by decide +kernel
theorem dX5_copyFrom_81 : decode cX5_copyFrom 81 = .ok (.aload_n 0, 1) := by decide +kernel
theorem dX5_copyFrom_82 : decode cX5_copyFrom 82 = .ok (.getfield 24, 3) := by decide +kernel
theorem dX5_copyFrom_85 : decode cX5_copyFrom 85 = .ok (.iconst 0, 1) := by decide +kernel
theorem dX5_copyFrom_86 : decode cX5_copyFrom 86 = .ok (.bipush 12, 2) := by decide +kernel
theorem dX5_copyFrom_88 : decode cX5_copyFrom 88 = .ok (.invokestatic 34, 3) := by decide +kernel
theorem dX5_copyFrom_91 : decode cX5_copyFrom 91 = .ok (.return_, 1) := by decide +kernel
def kX5_copyFrom : Nat → WOp := cN 43 (cN 21 (cN 9 (cN 2 (cN 0 (cL 0 (o_aload 1 0)) (cN 1 (cL 1 (o_aload 2 1)) (cL 2 (o_getf 5 4 0)))) (cN 5 (cL 5 (o_puti 8 4 0)) (cN 8 (cL 8 (o_aload 9 0)) (cL 9 (o_aload 10 1))))) (cN 16 (cN 10 (cL 10 (o_getf 13 4 1)) (cN 13 (cL 13 (o_puti 16 4 1)) (cL 16 (o_aload 17 1)))) (cN 17 (cL 17 (o_getf 20 4 2)) (cN 20 (cL 20 (o_push 21 0)) (cL 21 (o_aload 22 0)))))) (cN 32 (cN 26 (cN 22 (cL 22 (o_getf 25 4 2)) (cN 25 (cL 25 (o_push 26 0)) (cL 26 (o_push 28 12)))) (cN 28 (cL 28 (o_copy 31)) (cN 31 (cL 31 (o_aload 32 1)) (cL 32 (o_getf 35 4 3))))) (cN 37 (cN 35 (cL 35 (o_push 36 0)) (cN 36 (cL 36 (o_aload 37 0)) (cL 37 (o_getf 40 4 3)))) (cN 40 (cL 40 (o_push 41 0)) (cN 41 (cL 41 (o_push 43 12)) (cL 43 (o_copy 46))))))) (cN 66 (cN 55 (cN 50 (cN 46 (cL 46 (o_aload 47 1)) (cN 47 (cL 47 (o_getf 50 4 4)) (cL 50 (o_push 51 0)))) (cN 51 (cL 51 (o_aload 52 0)) (cN 52 (cL 52 (o_getf 55 4 4)) (cL 55 (o_push 56 0))))) (cN 61 (cN 56 (cL 56 (o_push 58 12)) (cN 58 (cL 58 (o_copy 61)) (cL 61 (o_aload 62 1)))) (cN 62 (cL 62 (o_getf 65 4 5)) (cN 65 (cL 65 (o_push 66 0)) (cL 66 (o_aload 67 0)))))) (cN 77 (cN 71 (cN 67 (cL 67 (o_getf 70 4 5)) (cN 70 (cL 70 (o_push 71 0)) (cL 71 (o_push 73 12)))) (cN 73 (cL 73 (o_copy 76)) (cN 76 (cL 76 (o_aload 77 1)) (cL 77 (o_getf 80 4 6))))) (cN 82 (cN 80 (cL 80 (o_push 81 0)) (cN 81 (cL 81 (o_aload 82 0)) (cL 82 (o_getf 85 4 6)))) (cN 86 (cN 85 (cL 85 (o_push 86 0)) (cL 86 (o_push 88 12))) (cN 88 (cL 88 (o_copy 91)) (cL 91 (o_vret)))))))
theorem sX5_copyFrom : ∀ pc, Snd tX5_copyFrom G1 pc (kX5_copyFrom pc) := s_N (s_N (s_N (s_N (s_N (s_L (s_aload_n dX5_copyFrom_0 rfl)) (s_N (s_L (s_aload_n dX5_copyFrom_1 rfl)) (s_L (s_getf ok_4 (k := 0) (by decide) dX5_copyFrom_2 qw_86)))) (s_N (s_L (s_puti ok_4 (k := 0) (by decide) rfl (Or.inl rfl) dX5_copyFrom_5 qw_86)) (s_N (s_L (s_aload_n dX5_copyFrom_8 rfl)) (s_L (s_aload_n dX5_copyFrom_9 rfl))))) (s_N (s_N (s_L (s_getf ok_4 (k := 1) (by decide) dX5_copyFrom_10 qw_89)) (s_N (s_L (s_puti ok_4 (k := 1) (by decide) rfl (Or.inl rfl) dX5_copyFrom_13 qw_89)) (s_L (s_aload_n dX5_copyFrom_16 rfl)))) (s_N (s_L (s_getf ok_4 (k := 2) (by decide) dX5_copyFrom_17 qw_91)) (s_N (s_L (s_iconst dX5_copyFrom_20 (by decide +kernel))) (s_L (s_aload_n dX5_copyFrom_21 rfl)))))) (s_N (s_N (s_N (s_L (s_getf ok_4 (k := 2) (by decide) dX5_copyFrom_22 qw_91)) (s_N (s_L (s_iconst dX5_copyFrom_25 (by decide +kernel))) (s_L (s_bipush dX5_copyFrom_26 (by decide +kernel))))) (s_N (s_L (s_copy qw_381 qw_372 qw_371 qw_31 (by decide) (by decide +kernel) dX5_copyFrom_28)) (s_N (s_L (s_aload_n dX5_copyFrom_31 rfl)) (s_L (s_getf ok_4 (k := 3) (by decide) dX5_copyFrom_32 qw_94))))) (s_N (s_N (s_L (s_iconst dX5_copyFrom_35 (by decide +kernel))) (s_N (s_L (s_aload_n dX5_copyFrom_36 rfl)) (s_L (s_getf ok_4 (k := 3) (by decide) dX5_copyFrom_37 qw_94)))) (s_N (s_L (s_iconst dX5_copyFrom_40 (by decide +kernel))) (s_N (s_L (s_bipush dX5_copyFrom_41 (by decide +kernel))) (s_L (s_copy qw_381 qw_372 qw_371 qw_31 (by decide) (by decide +kernel) dX5_copyFrom_43))))))) (s_N (s_N (s_N (s_N (s_L (s_aload_n dX5_copyFrom_46 rfl)) (s_N (s_L (s_getf ok_4 (k := 4) (by decide) dX5_copyFrom_47 qw_97)) (s_L (s_iconst dX5_copyFrom_50 (by decide +kernel))))) (s_N (s_L (s_aload_n dX5_copyFrom_51 rfl)) (s_N (s_L (s_getf ok_4 (k := 4) (by decide) dX5_copyFrom_52 qw_97)) (s_L (s_iconst dX5_copyFrom_55 (by decide +kernel)))))) (s_N (s_N (s_L (s_bipush dX5_copyFrom_56 (by decide +kernel))) (s_N (s_L (s_copy qw_381 qw_372 qw_371 qw_31 (by decide) (by decide +kernel) dX5_copyFrom_58)) (s_L (s_aload_n dX5_copyFrom_61 rfl)))) (s_N (s_L (s_getf ok_4 (k := 5) (by decide) dX5_copyFrom_62 qw_100)) (s_N (s_L (s_iconst dX5_copyFrom_65 (by decide +kernel))) (s_L (s_aload_n dX5_copyFrom_66 rfl)))))) (s_N (s_N (s_N (s_L (s_getf ok_4 (k := 5) (by decide) dX5_copyFrom_67 qw_100)) (s_N (s_L (s_iconst dX5_copyFrom_70 (by decide +kernel))) (s_L (s_bipush dX5_copyFrom_71 (by decide +kernel))))) (s_N (s_L (s_copy qw_381 qw_372 qw_371 qw_31 (by decide) (by decide +kernel) dX5_copyFrom_73)) (s_N (s_L (s_aload_n dX5_copyFrom_76 rfl)) (s_L (s_getf ok_4 (k := 6) (by decide) dX5_copyFrom_77 qw_103))))) (s_N (s_N (s_L (s_iconst dX5_copyFrom_80 (by decide +kernel))) (s_N (s_L (s_aload_n dX5_copyFrom_81 rfl)) (s_L (s_getf ok_4 (k := 6) (by decide) dX5_copyFrom_82 qw_103)))) (s_N (s_N (s_L (s_iconst dX5_copyFrom_85 (by decide +kernel))) (s_L (s_bipush dX5_copyFrom_86 (by decide +kernel)))) (s_N (s_L (s_copy qw_381 qw_372 qw_371 qw_31 (by decide) (by decide +kernel) dX5_copyFrom_88)) (s_L (s_vret rfl dX5_copyFrom_91)))))))
/-! PlateArm$Requests.isFull -/
theorem dX5_isFull_0 : decode cX5_isFull 0 = .ok (.aload_n 0, 1) := by decide +kernel
theorem dX5_isFull_1 : decode cX5_isFull 1 = .ok (.getfield 27, 3) := by decide +kernel
theorem dX5_isFull_4 : decode cX5_isFull 4 = .ok (.bipush 12, 2) := by decide +kernel
theorem dX5_isFull_6 : decode cX5_isFull 6 = .ok (.if_icmp .lt 7, 3) := by decide +kernel
theorem dX5_isFull_9 : decode cX5_isFull 9 = .ok (.iconst 1, 1) := by decide +kernel
theorem dX5_isFull_10 : decode cX5_isFull 10 = .ok (.goto 4, 3) := by decide +kernel
theorem dX5_isFull_13 : decode cX5_isFull 13 = .ok (.iconst 0, 1) := by decide +kernel
theorem dX5_isFull_14 : decode cX5_isFull 14 = .ok (.ireturn, 1) := by decide +kernel
def kX5_isFull : Nat → WOp := cN 6 (cN 1 (cN 0 (cL 0 (o_aload 1 0)) (cL 1 (o_getf 4 4 0))) (cN 4 (cL 4 (o_push 6 12)) (cL 6 (o_icmp_lt 13 9)))) (cN 10 (cN 9 (cL 9 (o_push 10 1)) (cL 10 (o_goto 14))) (cN 13 (cL 13 (o_push 14 0)) (cL 14 (o_zret))))
theorem sX5_isFull : ∀ pc, Snd tX5_isFull G1 pc (kX5_isFull pc) := s_N (s_N (s_N (s_L (s_aload_n dX5_isFull_0 rfl)) (s_L (s_getf ok_4 (k := 0) (by decide) dX5_isFull_1 qw_86))) (s_N (s_L (s_bipush dX5_isFull_4 (by decide +kernel))) (s_L (s_o_icmp_lt dX5_isFull_6 (by decide))))) (s_N (s_N (s_L (s_iconst dX5_isFull_9 (by decide +kernel))) (s_L (s_o_goto dX5_isFull_10 (by decide)))) (s_N (s_L (s_iconst dX5_isFull_13 (by decide +kernel))) (s_L (s_zret rfl dX5_isFull_14))))
/-! PlateArm$Requests.add -/
theorem dX5_add_0 : decode cX5_add 0 = .ok (.aload_n 0, 1) := by decide +kernel
theorem dX5_add_1 : decode cX5_add 1 = .ok (.invokevirtual 40, 3) := by decide +kernel
theorem dX5_add_4 : decode cX5_add 4 = .ok (.ifCond .eq 5, 3) := by decide +kernel
theorem dX5_add_7 : decode cX5_add 7 = .ok (.iconst (-1), 1) := by decide +kernel
theorem dX5_add_8 : decode cX5_add 8 = .ok (.ireturn, 1) := by decide +kernel
theorem dX5_add_9 : decode cX5_add 9 = .ok (.aload_n 0, 1) := by decide +kernel
theorem dX5_add_10 : decode cX5_add 10 = .ok (.getfield 11, 3) := by decide +kernel
theorem dX5_add_13 : decode cX5_add 13 = .ok (.aload_n 0, 1) := by decide +kernel
theorem dX5_add_14 : decode cX5_add 14 = .ok (.getfield 27, 3) := by decide +kernel
theorem dX5_add_17 : decode cX5_add 17 = .ok (.aload_n 0, 1) := by decide +kernel
theorem dX5_add_18 : decode cX5_add 18 = .ok (.getfield 31, 3) := by decide +kernel
theorem dX5_add_21 : decode cX5_add 21 = .ok (.iastore, 1) := by decide +kernel
theorem dX5_add_22 : decode cX5_add 22 = .ok (.aload_n 0, 1) := by decide +kernel
theorem dX5_add_23 : decode cX5_add 23 = .ok (.getfield 15, 3) := by decide +kernel
theorem dX5_add_26 : decode cX5_add 26 = .ok (.aload_n 0, 1) := by decide +kernel
theorem dX5_add_27 : decode cX5_add 27 = .ok (.getfield 27, 3) := by decide +kernel
theorem dX5_add_30 : decode cX5_add 30 = .ok (.iload_n 1, 1) := by decide +kernel
theorem dX5_add_31 : decode cX5_add 31 = .ok (.iastore, 1) := by decide +kernel
theorem dX5_add_32 : decode cX5_add 32 = .ok (.aload_n 0, 1) := by decide +kernel
theorem dX5_add_33 : decode cX5_add 33 = .ok (.getfield 18, 3) := by decide +kernel
theorem dX5_add_36 : decode cX5_add 36 = .ok (.aload_n 0, 1) := by decide +kernel
theorem dX5_add_37 : decode cX5_add 37 = .ok (.getfield 27, 3) := by decide +kernel
theorem dX5_add_40 : decode cX5_add 40 = .ok (.iload_n 2, 1) := by decide +kernel
theorem dX5_add_41 : decode cX5_add 41 = .ok (.iastore, 1) := by decide +kernel
theorem dX5_add_42 : decode cX5_add 42 = .ok (.aload_n 0, 1) := by decide +kernel
theorem dX5_add_43 : decode cX5_add 43 = .ok (.getfield 21, 3) := by decide +kernel
theorem dX5_add_46 : decode cX5_add 46 = .ok (.aload_n 0, 1) := by decide +kernel
theorem dX5_add_47 : decode cX5_add 47 = .ok (.getfield 27, 3) := by decide +kernel
theorem dX5_add_50 : decode cX5_add 50 = .ok (.iload_n 3, 1) := by decide +kernel
theorem dX5_add_51 : decode cX5_add 51 = .ok (.iastore, 1) := by decide +kernel
theorem dX5_add_52 : decode cX5_add 52 = .ok (.aload_n 0, 1) := by decide +kernel
theorem dX5_add_53 : decode cX5_add 53 = .ok (.getfield 24, 3) := by decide +kernel
theorem dX5_add_56 : decode cX5_add 56 = .ok (.aload_n 0, 1) := by decide +kernel
theorem dX5_add_57 : decode cX5_add 57 = .ok (.getfield 27, 3) := by decide +kernel
theorem dX5_add_60 : decode cX5_add 60 = .ok (.iload 4, 2) := by decide +kernel
theorem dX5_add_62 : decode cX5_add 62 = .ok (.iastore, 1) := by decide +kernel
theorem dX5_add_63 : decode cX5_add 63 = .ok (.aload_n 0, 1) := by decide +kernel
theorem dX5_add_64 : decode cX5_add 64 = .ok (.dup, 1) := by decide +kernel
theorem dX5_add_65 : decode cX5_add 65 = .ok (.getfield 27, 3) := by decide +kernel
theorem dX5_add_68 : decode cX5_add 68 = .ok (.iconst 1, 1) := by decide +kernel
theorem dX5_add_69 : decode cX5_add 69 = .ok (.iadd, 1) := by decide +kernel
theorem dX5_add_70 : decode cX5_add 70 = .ok (.putfield 27, 3) := by decide +kernel
theorem dX5_add_73 : decode cX5_add 73 = .ok (.aload_n 0, 1) := by decide +kernel
theorem dX5_add_74 : decode cX5_add 74 = .ok (.dup, 1) := by decide +kernel
theorem dX5_add_75 : decode cX5_add 75 = .ok (.getfield 31, 3) := by decide +kernel
theorem dX5_add_78 : decode cX5_add 78 = .ok (.iconst 1, 1) := by decide +kernel
theorem dX5_add_79 : decode cX5_add 79 = .ok (.iadd, 1) := by decide +kernel
theorem dX5_add_80 : decode cX5_add 80 = .ok (.putfield 31, 3) := by decide +kernel
theorem dX5_add_83 : decode cX5_add 83 = .ok (.aload_n 0, 1) := by decide +kernel
theorem dX5_add_84 : decode cX5_add 84 = .ok (.getfield 11, 3) := by decide +kernel
theorem dX5_add_87 : decode cX5_add 87 = .ok (.aload_n 0, 1) := by decide +kernel
theorem dX5_add_88 : decode cX5_add 88 = .ok (.getfield 27, 3) := by decide +kernel
theorem dX5_add_91 : decode cX5_add 91 = .ok (.iconst 1, 1) := by decide +kernel
theorem dX5_add_92 : decode cX5_add 92 = .ok (.isub, 1) := by decide +kernel
theorem dX5_add_93 : decode cX5_add 93 = .ok (.iaload, 1) := by decide +kernel
theorem dX5_add_94 : decode cX5_add 94 = .ok (.ireturn, 1) := by decide +kernel
theorem cc_X5_add_X5_isFull : CallC tX5_add tX5_isFull 0 := ⟨by decide +kernel, by decide +kernel, by decide +kernel, by decide, by decide, qw_18, qw_427⟩
def kX5_add : Nat → WOp := cN 47 (cN 23 (cN 10 (cN 4 (cN 0 (cL 0 (o_aload 1 0)) (cN 1 (cL 1 (o_callV 4 4 0 tX5_isFull 0 0)) (cL 4 (o_if_eq 9 7)))) (cN 8 (cN 7 (cL 7 (o_push 8 (-1))) (cL 8 (o_iret))) (cN 9 (cL 9 (o_aload 10 0)) (cL 10 (o_getf 13 4 2))))) (cN 17 (cN 13 (cL 13 (o_aload 14 0)) (cN 14 (cL 14 (o_getf 17 4 0)) (cL 17 (o_aload 18 0)))) (cN 21 (cN 18 (cL 18 (o_getf 21 4 1)) (cL 21 (o_iast 22))) (cN 22 (cL 22 (o_aload 23 0)) (cL 23 (o_getf 26 4 3)))))) (cN 36 (cN 30 (cN 26 (cL 26 (o_aload 27 0)) (cN 27 (cL 27 (o_getf 30 4 0)) (cL 30 (o_iload 31 1)))) (cN 32 (cN 31 (cL 31 (o_iast 32)) (cL 32 (o_aload 33 0))) (cN 33 (cL 33 (o_getf 36 4 4)) (cL 36 (o_aload 37 0))))) (cN 41 (cN 37 (cL 37 (o_getf 40 4 0)) (cN 40 (cL 40 (o_iload 41 2)) (cL 41 (o_iast 42)))) (cN 43 (cN 42 (cL 42 (o_aload 43 0)) (cL 43 (o_getf 46 4 5))) (cN 46 (cL 46 (o_aload 47 0)) (cL 47 (o_getf 50 4 0))))))) (cN 70 (cN 60 (cN 52 (cN 50 (cL 50 (o_iload 51 3)) (cN 51 (cL 51 (o_iast 52)) (cL 52 (o_aload 53 0)))) (cN 56 (cN 53 (cL 53 (o_getf 56 4 6)) (cL 56 (o_aload 57 0))) (cN 57 (cL 57 (o_getf 60 4 0)) (cL 60 (o_iload 62 4))))) (cN 64 (cN 62 (cL 62 (o_iast 63)) (cN 63 (cL 63 (o_aload 64 0)) (cL 64 (o_dup 65)))) (cN 68 (cN 65 (cL 65 (o_getf 68 4 0)) (cL 68 (o_push 69 1))) (cN 69 (cL 69 (o_iadd 70)) (cL 70 (o_puti 73 4 0)))))) (cN 83 (cN 75 (cN 73 (cL 73 (o_aload 74 0)) (cN 74 (cL 74 (o_dup 75)) (cL 75 (o_getf 78 4 1)))) (cN 79 (cN 78 (cL 78 (o_push 79 1)) (cL 79 (o_iadd 80))) (cN 80 (cL 80 (o_puti 83 4 1)) (cL 83 (o_aload 84 0))))) (cN 88 (cN 84 (cL 84 (o_getf 87 4 2)) (cN 87 (cL 87 (o_aload 88 0)) (cL 88 (o_getf 91 4 0)))) (cN 92 (cN 91 (cL 91 (o_push 92 1)) (cL 92 (o_isub 93))) (cN 93 (cL 93 (o_iald 94)) (cL 94 (o_iret)))))))
theorem sX5_add : ∀ pc, Snd tX5_add G1 pc (kX5_add pc) := s_N (s_N (s_N (s_N (s_N (s_L (s_aload_n dX5_add_0 rfl)) (s_N (s_L (s_callV (d' := tX5_isFull) (mc := 0) (ms := 0) ok_4 cc_X5_add_X5_isFull qw_447 qw_425 qw_426 dX5_add_1)) (s_L (s_o_if_eq dX5_add_4 (by decide))))) (s_N (s_N (s_L (s_iconst dX5_add_7 (by decide +kernel))) (s_L (s_iret rfl dX5_add_8))) (s_N (s_L (s_aload_n dX5_add_9 rfl)) (s_L (s_getf ok_4 (k := 2) (by decide) dX5_add_10 qw_91))))) (s_N (s_N (s_L (s_aload_n dX5_add_13 rfl)) (s_N (s_L (s_getf ok_4 (k := 0) (by decide) dX5_add_14 qw_86)) (s_L (s_aload_n dX5_add_17 rfl)))) (s_N (s_N (s_L (s_getf ok_4 (k := 1) (by decide) dX5_add_18 qw_89)) (s_L (s_iast dX5_add_21))) (s_N (s_L (s_aload_n dX5_add_22 rfl)) (s_L (s_getf ok_4 (k := 3) (by decide) dX5_add_23 qw_94)))))) (s_N (s_N (s_N (s_L (s_aload_n dX5_add_26 rfl)) (s_N (s_L (s_getf ok_4 (k := 0) (by decide) dX5_add_27 qw_86)) (s_L (s_iload_n dX5_add_30 rfl)))) (s_N (s_N (s_L (s_iast dX5_add_31)) (s_L (s_aload_n dX5_add_32 rfl))) (s_N (s_L (s_getf ok_4 (k := 4) (by decide) dX5_add_33 qw_97)) (s_L (s_aload_n dX5_add_36 rfl))))) (s_N (s_N (s_L (s_getf ok_4 (k := 0) (by decide) dX5_add_37 qw_86)) (s_N (s_L (s_iload_n dX5_add_40 rfl)) (s_L (s_iast dX5_add_41)))) (s_N (s_N (s_L (s_aload_n dX5_add_42 rfl)) (s_L (s_getf ok_4 (k := 5) (by decide) dX5_add_43 qw_100))) (s_N (s_L (s_aload_n dX5_add_46 rfl)) (s_L (s_getf ok_4 (k := 0) (by decide) dX5_add_47 qw_86))))))) (s_N (s_N (s_N (s_N (s_L (s_iload_n dX5_add_50 rfl)) (s_N (s_L (s_iast dX5_add_51)) (s_L (s_aload_n dX5_add_52 rfl)))) (s_N (s_N (s_L (s_getf ok_4 (k := 6) (by decide) dX5_add_53 qw_103)) (s_L (s_aload_n dX5_add_56 rfl))) (s_N (s_L (s_getf ok_4 (k := 0) (by decide) dX5_add_57 qw_86)) (s_L (s_iload dX5_add_60))))) (s_N (s_N (s_L (s_iast dX5_add_62)) (s_N (s_L (s_aload_n dX5_add_63 rfl)) (s_L (s_o_dup dX5_add_64)))) (s_N (s_N (s_L (s_getf ok_4 (k := 0) (by decide) dX5_add_65 qw_86)) (s_L (s_iconst dX5_add_68 (by decide +kernel)))) (s_N (s_L (s_o_iadd dX5_add_69)) (s_L (s_puti ok_4 (k := 0) (by decide) rfl (Or.inl rfl) dX5_add_70 qw_86)))))) (s_N (s_N (s_N (s_L (s_aload_n dX5_add_73 rfl)) (s_N (s_L (s_o_dup dX5_add_74)) (s_L (s_getf ok_4 (k := 1) (by decide) dX5_add_75 qw_89)))) (s_N (s_N (s_L (s_iconst dX5_add_78 (by decide +kernel))) (s_L (s_o_iadd dX5_add_79))) (s_N (s_L (s_puti ok_4 (k := 1) (by decide) rfl (Or.inl rfl) dX5_add_80 qw_89)) (s_L (s_aload_n dX5_add_83 rfl))))) (s_N (s_N (s_L (s_getf ok_4 (k := 2) (by decide) dX5_add_84 qw_91)) (s_N (s_L (s_aload_n dX5_add_87 rfl)) (s_L (s_getf ok_4 (k := 0) (by decide) dX5_add_88 qw_86)))) (s_N (s_N (s_L (s_iconst dX5_add_91 (by decide +kernel))) (s_L (s_o_isub dX5_add_92))) (s_N (s_L (s_iald dX5_add_93)) (s_L (s_iret rfl dX5_add_94)))))))
/-! PlateArm$Requests.indexOf -/
theorem dX5_indexOf_0 : decode cX5_indexOf 0 = .ok (.iconst 0, 1) := by decide +kernel
theorem dX5_indexOf_1 : decode cX5_indexOf 1 = .ok (.istore_n 2, 1) := by decide +kernel
theorem dX5_indexOf_2 : decode cX5_indexOf 2 = .ok (.iload_n 2, 1) := by decide +kernel
theorem dX5_indexOf_3 : decode cX5_indexOf 3 = .ok (.aload_n 0, 1) := by decide +kernel
theorem dX5_indexOf_4 : decode cX5_indexOf 4 = .ok (.getfield 27, 3) := by decide +kernel
theorem dX5_indexOf_7 : decode cX5_indexOf 7 = .ok (.if_icmp .ge 21, 3) := by decide +kernel
theorem dX5_indexOf_10 : decode cX5_indexOf 10 = .ok (.aload_n 0, 1) := by decide +kernel
theorem dX5_indexOf_11 : decode cX5_indexOf 11 = .ok (.getfield 11, 3) := by decide +kernel
theorem dX5_indexOf_14 : decode cX5_indexOf 14 = .ok (.iload_n 2, 1) := by decide +kernel
theorem dX5_indexOf_15 : decode cX5_indexOf 15 = .ok (.iaload, 1) := by decide +kernel
theorem dX5_indexOf_16 : decode cX5_indexOf 16 = .ok (.iload_n 1, 1) := by decide +kernel
theorem dX5_indexOf_17 : decode cX5_indexOf 17 = .ok (.if_icmp .ne 5, 3) := by decide +kernel
theorem dX5_indexOf_20 : decode cX5_indexOf 20 = .ok (.iload_n 2, 1) := by decide +kernel
theorem dX5_indexOf_21 : decode cX5_indexOf 21 = .ok (.ireturn, 1) := by decide +kernel
theorem dX5_indexOf_22 : decode cX5_indexOf 22 = .ok (.iinc 2 1, 3) := by decide +kernel
theorem dX5_indexOf_25 : decode cX5_indexOf 25 = .ok (.goto (-23), 3) := by decide +kernel
theorem dX5_indexOf_28 : decode cX5_indexOf 28 = .ok (.iconst (-1), 1) := by decide +kernel
theorem dX5_indexOf_29 : decode cX5_indexOf 29 = .ok (.ireturn, 1) := by decide +kernel
def kX5_indexOf : Nat → WOp := cN 14 (cN 3 (cN 1 (cN 0 (cL 0 (o_push 1 0)) (cL 1 (o_istore 2 2))) (cN 2 (cL 2 (o_iload 3 2)) (cL 3 (o_aload 4 0)))) (cN 7 (cN 4 (cL 4 (o_getf 7 4 0)) (cL 7 (o_icmp_ge 28 10))) (cN 10 (cL 10 (o_aload 11 0)) (cN 11 (cL 11 (o_getf 14 4 2)) (cL 14 (o_iload 15 2)))))) (cN 20 (cN 16 (cN 15 (cL 15 (o_iald 16)) (cL 16 (o_iload 17 1))) (cN 17 (cL 17 (o_icmp_ne 22 20)) (cL 20 (o_iload 21 2)))) (cN 22 (cN 21 (cL 21 (o_iret)) (cL 22 (o_iinc 25 2 1))) (cN 25 (cL 25 (o_goto 2)) (cN 28 (cL 28 (o_push 29 (-1))) (cL 29 (o_iret))))))
theorem sX5_indexOf : ∀ pc, Snd tX5_indexOf G1 pc (kX5_indexOf pc) := s_N (s_N (s_N (s_N (s_L (s_iconst dX5_indexOf_0 (by decide +kernel))) (s_L (s_istore_n dX5_indexOf_1 rfl (by decide)))) (s_N (s_L (s_iload_n dX5_indexOf_2 rfl)) (s_L (s_aload_n dX5_indexOf_3 rfl)))) (s_N (s_N (s_L (s_getf ok_4 (k := 0) (by decide) dX5_indexOf_4 qw_86)) (s_L (s_o_icmp_ge dX5_indexOf_7 (by decide)))) (s_N (s_L (s_aload_n dX5_indexOf_10 rfl)) (s_N (s_L (s_getf ok_4 (k := 2) (by decide) dX5_indexOf_11 qw_91)) (s_L (s_iload_n dX5_indexOf_14 rfl)))))) (s_N (s_N (s_N (s_L (s_iald dX5_indexOf_15)) (s_L (s_iload_n dX5_indexOf_16 rfl))) (s_N (s_L (s_o_icmp_ne dX5_indexOf_17 (by decide))) (s_L (s_iload_n dX5_indexOf_20 rfl)))) (s_N (s_N (s_L (s_iret rfl dX5_indexOf_21)) (s_L (s_iinc (v := 1) dX5_indexOf_22 (by decide +kernel) (by decide)))) (s_N (s_L (s_o_goto dX5_indexOf_25 (by decide))) (s_N (s_L (s_iconst dX5_indexOf_28 (by decide +kernel))) (s_L (s_iret rfl dX5_indexOf_29))))))
/-! PlateArm$Requests.move -/
theorem dX5_move_0 : decode cX5_move 0 = .ok (.aload_n 0, 1) := by decide +kernel
theorem dX5_move_1 : decode cX5_move 1 = .ok (.getfield 11, 3) := by decide +kernel
theorem dX5_move_4 : decode cX5_move 4 = .ok (.iload_n 2, 1) := by decide +kernel
theorem dX5_move_5 : decode cX5_move 5 = .ok (.aload_n 0, 1) := by decide +kernel
theorem dX5_move_6 : decode cX5_move 6 = .ok (.getfield 11, 3) := by decide +kernel
theorem dX5_move_9 : decode cX5_move 9 = .ok (.iload_n 1, 1) := by decide +kernel
theorem dX5_move_10 : decode cX5_move 10 = .ok (.iaload, 1) := by decide +kernel
theorem dX5_move_11 : decode cX5_move 11 = .ok (.iastore, 1) := by decide +kernel
theorem dX5_move_12 : decode cX5_move 12 = .ok (.aload_n 0, 1) := by decide +kernel
theorem dX5_move_13 : decode cX5_move 13 = .ok (.getfield 15, 3) := by decide +kernel
theorem dX5_move_16 : decode cX5_move 16 = .ok (.iload_n 2, 1) := by decide +kernel
theorem dX5_move_17 : decode cX5_move 17 = .ok (.aload_n 0, 1) := by decide +kernel
theorem dX5_move_18 : decode cX5_move 18 = .ok (.getfield 15, 3) := by decide +kernel
theorem dX5_move_21 : decode cX5_move 21 = .ok (.iload_n 1, 1) := by decide +kernel
theorem dX5_move_22 : decode cX5_move 22 = .ok (.iaload, 1) := by decide +kernel
theorem dX5_move_23 : decode cX5_move 23 = .ok (.iastore, 1) := by decide +kernel
theorem dX5_move_24 : decode cX5_move 24 = .ok (.aload_n 0, 1) := by decide +kernel
theorem dX5_move_25 : decode cX5_move 25 = .ok (.getfield 18, 3) := by decide +kernel
theorem dX5_move_28 : decode cX5_move 28 = .ok (.iload_n 2, 1) := by decide +kernel
theorem dX5_move_29 : decode cX5_move 29 = .ok (.aload_n 0, 1) := by decide +kernel
theorem dX5_move_30 : decode cX5_move 30 = .ok (.getfield 18, 3) := by decide +kernel
theorem dX5_move_33 : decode cX5_move 33 = .ok (.iload_n 1, 1) := by decide +kernel
theorem dX5_move_34 : decode cX5_move 34 = .ok (.iaload, 1) := by decide +kernel
theorem dX5_move_35 : decode cX5_move 35 = .ok (.iastore, 1) := by decide +kernel
theorem dX5_move_36 : decode cX5_move 36 = .ok (.aload_n 0, 1) := by decide +kernel
theorem dX5_move_37 : decode cX5_move 37 = .ok (.getfield 21, 3) := by decide +kernel
theorem dX5_move_40 : decode cX5_move 40 = .ok (.iload_n 2, 1) := by decide +kernel
theorem dX5_move_41 : decode cX5_move 41 = .ok (.aload_n 0, 1) := by decide +kernel
theorem dX5_move_42 : decode cX5_move 42 = .ok (.getfield 21, 3) := by decide +kernel
theorem dX5_move_45 : decode cX5_move 45 = .ok (.iload_n 1, 1) := by decide +kernel
theorem dX5_move_46 : decode cX5_move 46 = .ok (.iaload, 1) := by decide +kernel
theorem dX5_move_47 : decode cX5_move 47 = .ok (.iastore, 1) := by decide +kernel
theorem dX5_move_48 : decode cX5_move 48 = .ok (.aload_n 0, 1) := by decide +kernel
theorem dX5_move_49 : decode cX5_move 49 = .ok (.getfield 24, 3) := by decide +kernel
theorem dX5_move_52 : decode cX5_move 52 = .ok (.iload_n 2, 1) := by decide +kernel
theorem dX5_move_53 : decode cX5_move 53 = .ok (.aload_n 0, 1) := by decide +kernel
theorem dX5_move_54 : decode cX5_move 54 = .ok (.getfield 24, 3) := by decide +kernel
theorem dX5_move_57 : decode cX5_move 57 = .ok (.iload_n 1, 1) := by decide +kernel
theorem dX5_move_58 : decode cX5_move 58 = .ok (.iaload, 1) := by decide +kernel
theorem dX5_move_59 : decode cX5_move 59 = .ok (.iastore, 1) := by decide +kernel
theorem dX5_move_60 : decode cX5_move 60 = .ok (.return_, 1) := by decide +kernel
def kX5_move : Nat → WOp := cN 29 (cN 13 (cN 6 (cN 1 (cN 0 (cL 0 (o_aload 1 0)) (cL 1 (o_getf 4 4 2))) (cN 4 (cL 4 (o_iload 5 2)) (cN 5 (cL 5 (o_aload 6 0)) (cL 6 (o_getf 9 4 2))))) (cN 10 (cN 9 (cL 9 (o_iload 10 1)) (cL 10 (o_iald 11))) (cN 11 (cL 11 (o_iast 12)) (cN 12 (cL 12 (o_aload 13 0)) (cL 13 (o_getf 16 4 3)))))) (cN 22 (cN 17 (cN 16 (cL 16 (o_iload 17 2)) (cL 17 (o_aload 18 0))) (cN 18 (cL 18 (o_getf 21 4 3)) (cN 21 (cL 21 (o_iload 22 1)) (cL 22 (o_iald 23))))) (cN 24 (cN 23 (cL 23 (o_iast 24)) (cL 24 (o_aload 25 0))) (cN 25 (cL 25 (o_getf 28 4 4)) (cN 28 (cL 28 (o_iload 29 2)) (cL 29 (o_aload 30 0))))))) (cN 45 (cN 36 (cN 33 (cN 30 (cL 30 (o_getf 33 4 4)) (cL 33 (o_iload 34 1))) (cN 34 (cL 34 (o_iald 35)) (cN 35 (cL 35 (o_iast 36)) (cL 36 (o_aload 37 0))))) (cN 40 (cN 37 (cL 37 (o_getf 40 4 5)) (cL 40 (o_iload 41 2))) (cN 41 (cL 41 (o_aload 42 0)) (cN 42 (cL 42 (o_getf 45 4 5)) (cL 45 (o_iload 46 1)))))) (cN 52 (cN 47 (cN 46 (cL 46 (o_iald 47)) (cL 47 (o_iast 48))) (cN 48 (cL 48 (o_aload 49 0)) (cN 49 (cL 49 (o_getf 52 4 6)) (cL 52 (o_iload 53 2))))) (cN 57 (cN 53 (cL 53 (o_aload 54 0)) (cN 54 (cL 54 (o_getf 57 4 6)) (cL 57 (o_iload 58 1)))) (cN 58 (cL 58 (o_iald 59)) (cN 59 (cL 59 (o_iast 60)) (cL 60 (o_vret)))))))
theorem sX5_move : ∀ pc, Snd tX5_move G1 pc (kX5_move pc) := s_N (s_N (s_N (s_N (s_N (s_L (s_aload_n dX5_move_0 rfl)) (s_L (s_getf ok_4 (k := 2) (by decide) dX5_move_1 qw_91))) (s_N (s_L (s_iload_n dX5_move_4 rfl)) (s_N (s_L (s_aload_n dX5_move_5 rfl)) (s_L (s_getf ok_4 (k := 2) (by decide) dX5_move_6 qw_91))))) (s_N (s_N (s_L (s_iload_n dX5_move_9 rfl)) (s_L (s_iald dX5_move_10))) (s_N (s_L (s_iast dX5_move_11)) (s_N (s_L (s_aload_n dX5_move_12 rfl)) (s_L (s_getf ok_4 (k := 3) (by decide) dX5_move_13 qw_94)))))) (s_N (s_N (s_N (s_L (s_iload_n dX5_move_16 rfl)) (s_L (s_aload_n dX5_move_17 rfl))) (s_N (s_L (s_getf ok_4 (k := 3) (by decide) dX5_move_18 qw_94)) (s_N (s_L (s_iload_n dX5_move_21 rfl)) (s_L (s_iald dX5_move_22))))) (s_N (s_N (s_L (s_iast dX5_move_23)) (s_L (s_aload_n dX5_move_24 rfl))) (s_N (s_L (s_getf ok_4 (k := 4) (by decide) dX5_move_25 qw_97)) (s_N (s_L (s_iload_n dX5_move_28 rfl)) (s_L (s_aload_n dX5_move_29 rfl))))))) (s_N (s_N (s_N (s_N (s_L (s_getf ok_4 (k := 4) (by decide) dX5_move_30 qw_97)) (s_L (s_iload_n dX5_move_33 rfl))) (s_N (s_L (s_iald dX5_move_34)) (s_N (s_L (s_iast dX5_move_35)) (s_L (s_aload_n dX5_move_36 rfl))))) (s_N (s_N (s_L (s_getf ok_4 (k := 5) (by decide) dX5_move_37 qw_100)) (s_L (s_iload_n dX5_move_40 rfl))) (s_N (s_L (s_aload_n dX5_move_41 rfl)) (s_N (s_L (s_getf ok_4 (k := 5) (by decide) dX5_move_42 qw_100)) (s_L (s_iload_n dX5_move_45 rfl)))))) (s_N (s_N (s_N (s_L (s_iald dX5_move_46)) (s_L (s_iast dX5_move_47))) (s_N (s_L (s_aload_n dX5_move_48 rfl)) (s_N (s_L (s_getf ok_4 (k := 6) (by decide) dX5_move_49 qw_103)) (s_L (s_iload_n dX5_move_52 rfl))))) (s_N (s_N (s_L (s_aload_n dX5_move_53 rfl)) (s_N (s_L (s_getf ok_4 (k := 6) (by decide) dX5_move_54 qw_103)) (s_L (s_iload_n dX5_move_57 rfl)))) (s_N (s_L (s_iald dX5_move_58)) (s_N (s_L (s_iast dX5_move_59)) (s_L (s_vret rfl dX5_move_60)))))))
/-! PlateArm$Requests.removeAt -/
theorem dX5_removeAt_0 : decode cX5_removeAt 0 = .ok (.iload_n 1, 1) := by decide +kernel
theorem dX5_removeAt_1 : decode cX5_removeAt 1 = .ok (.iconst 1, 1) := by decide +kernel
theorem dX5_removeAt_2 : decode cX5_removeAt 2 = .ok (.iadd, 1) := by decide +kernel
theorem dX5_removeAt_3 : decode cX5_removeAt 3 = .ok (.istore_n 2, 1) := by decide +kernel
theorem dX5_removeAt_4 : decode cX5_removeAt 4 = .ok (.iload_n 2, 1) := by decide +kernel
theorem dX5_removeAt_5 : decode cX5_removeAt 5 = .ok (.aload_n 0, 1) := by decide +kernel
theorem dX5_removeAt_6 : decode cX5_removeAt 6 = .ok (.getfield 27, 3) := by decide +kernel
theorem dX5_removeAt_9 : decode cX5_removeAt 9 = .ok (.if_icmp .ge 17, 3) := by decide +kernel
theorem dX5_removeAt_12 : decode cX5_removeAt 12 = .ok (.aload_n 0, 1) := by decide +kernel
theorem dX5_removeAt_13 : decode cX5_removeAt 13 = .ok (.iload_n 2, 1) := by decide +kernel
theorem dX5_removeAt_14 : decode cX5_removeAt 14 = .ok (.iload_n 2, 1) := by decide +kernel
theorem dX5_removeAt_15 : decode cX5_removeAt 15 = .ok (.iconst 1, 1) := by decide +kernel
theorem dX5_removeAt_16 : decode cX5_removeAt 16 = .ok (.isub, 1) := by decide +kernel
theorem dX5_removeAt_17 : decode cX5_removeAt 17 = .ok (.invokevirtual 44, 3) := by decide +kernel
theorem dX5_removeAt_20 : decode cX5_removeAt 20 = .ok (.iinc 2 1, 3) := by decide +kernel
theorem dX5_removeAt_23 : decode cX5_removeAt 23 = .ok (.goto (-19), 3) := by decide +kernel
theorem dX5_removeAt_26 : decode cX5_removeAt 26 = .ok (.aload_n 0, 1) := by decide +kernel
theorem dX5_removeAt_27 : decode cX5_removeAt 27 = .ok (.dup, 1) := by decide +kernel
theorem dX5_removeAt_28 : decode cX5_removeAt 28 = .ok (.getfield 27, 3) := by decide +kernel
theorem dX5_removeAt_31 : decode cX5_removeAt 31 = .ok (.iconst 1, 1) := by decide +kernel
theorem dX5_removeAt_32 : decode cX5_removeAt 32 = .ok (.isub, 1) := by decide +kernel
theorem dX5_removeAt_33 : decode cX5_removeAt 33 = .ok (.putfield 27, 3) := by decide +kernel
theorem dX5_removeAt_36 : decode cX5_removeAt 36 = .ok (.return_, 1) := by decide +kernel
theorem cc_X5_removeAt_X5_move : CallC tX5_removeAt tX5_move 2 := ⟨by decide +kernel, by decide +kernel, by decide +kernel, by decide, by decide, qw_18, qw_486⟩
def kX5_removeAt : Nat → WOp := cN 14 (cN 4 (cN 1 (cN 0 (cL 0 (o_iload 1 1)) (cL 1 (o_push 2 1))) (cN 2 (cL 2 (o_iadd 3)) (cN 3 (cL 3 (o_istore 4 2)) (cL 4 (o_iload 5 2))))) (cN 9 (cN 5 (cL 5 (o_aload 6 0)) (cN 6 (cL 6 (o_getf 9 4 0)) (cL 9 (o_icmp_ge 26 12)))) (cN 12 (cL 12 (o_aload 13 0)) (cN 13 (cL 13 (o_iload 14 2)) (cL 14 (o_iload 15 2)))))) (cN 26 (cN 17 (cN 15 (cL 15 (o_push 16 1)) (cN 16 (cL 16 (o_isub 17)) (cL 17 (o_callV 20 4 2 tX5_move 0 0)))) (cN 20 (cL 20 (o_iinc 23 2 1)) (cN 23 (cL 23 (o_goto 4)) (cL 26 (o_aload 27 0))))) (cN 31 (cN 27 (cL 27 (o_dup 28)) (cN 28 (cL 28 (o_getf 31 4 0)) (cL 31 (o_push 32 1)))) (cN 32 (cL 32 (o_isub 33)) (cN 33 (cL 33 (o_puti 36 4 0)) (cL 36 (o_vret))))))
theorem sX5_removeAt : ∀ pc, Snd tX5_removeAt G1 pc (kX5_removeAt pc) := s_N (s_N (s_N (s_N (s_L (s_iload_n dX5_removeAt_0 rfl)) (s_L (s_iconst dX5_removeAt_1 (by decide +kernel)))) (s_N (s_L (s_o_iadd dX5_removeAt_2)) (s_N (s_L (s_istore_n dX5_removeAt_3 rfl (by decide))) (s_L (s_iload_n dX5_removeAt_4 rfl))))) (s_N (s_N (s_L (s_aload_n dX5_removeAt_5 rfl)) (s_N (s_L (s_getf ok_4 (k := 0) (by decide) dX5_removeAt_6 qw_86)) (s_L (s_o_icmp_ge dX5_removeAt_9 (by decide))))) (s_N (s_L (s_aload_n dX5_removeAt_12 rfl)) (s_N (s_L (s_iload_n dX5_removeAt_13 rfl)) (s_L (s_iload_n dX5_removeAt_14 rfl)))))) (s_N (s_N (s_N (s_L (s_iconst dX5_removeAt_15 (by decide +kernel))) (s_N (s_L (s_o_isub dX5_removeAt_16)) (s_L (s_callV (d' := tX5_move) (mc := 0) (ms := 0) ok_4 cc_X5_removeAt_X5_move qw_483 qw_484 qw_485 dX5_removeAt_17)))) (s_N (s_L (s_iinc (v := 1) dX5_removeAt_20 (by decide +kernel) (by decide))) (s_N (s_L (s_o_goto dX5_removeAt_23 (by decide))) (s_L (s_aload_n dX5_removeAt_26 rfl))))) (s_N (s_N (s_L (s_o_dup dX5_removeAt_27)) (s_N (s_L (s_getf ok_4 (k := 0) (by decide) dX5_removeAt_28 qw_86)) (s_L (s_iconst dX5_removeAt_31 (by decide +kernel))))) (s_N (s_L (s_o_isub dX5_removeAt_32)) (s_N (s_L (s_puti ok_4 (k := 0) (by decide) rfl (Or.inl rfl) dX5_removeAt_33 qw_86)) (s_L (s_vret rfl dX5_removeAt_36))))))
