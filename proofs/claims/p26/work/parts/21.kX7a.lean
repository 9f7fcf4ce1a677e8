/-! PlateArm$Tally.<init> -/
theorem dX7_init_0 : decode cX7_init 0 = .ok (.aload_n 0, 1) := by decide +kernel
theorem dX7_init_1 : decode cX7_init 1 = .ok (.invokespecial 1, 3) := by decide +kernel
theorem dX7_init_4 : decode cX7_init 4 = .ok (.return_, 1) := by decide +kernel
def kX7_init : Nat → WOp := cN 0 (cL 0 (o_aload 1 0)) (cN 1 (cL 1 (o_objinit 4)) (cL 4 (o_vret)))
theorem sX7_init : ∀ pc, Snd tX7_init G1 pc (kX7_init pc) := s_N (s_L (s_aload_n dX7_init_0 rfl)) (s_N (s_L (s_objinit qw_139 qw_39 qw_40 (by decide) (by decide) dX7_init_1)) (s_L (s_vret rfl dX7_init_4)))
/-! PlateArm$Tally.reset -/
theorem dX7_reset_0 : decode cX7_reset 0 = .ok (.aload_n 0, 1) := by decide +kernel
theorem dX7_reset_1 : decode cX7_reset 1 = .ok (.iconst 0, 1) := by decide +kernel
theorem dX7_reset_2 : decode cX7_reset 2 = .ok (.putfield 7, 3) := by decide +kernel
theorem dX7_reset_5 : decode cX7_reset 5 = .ok (.aload_n 0, 1) := by decide +kernel
theorem dX7_reset_6 : decode cX7_reset 6 = .ok (.iconst 0, 1) := by decide +kernel
theorem dX7_reset_7 : decode cX7_reset 7 = .ok (.putfield 13, 3) := by decide +kernel
theorem dX7_reset_10 : decode cX7_reset 10 = .ok (.aload_n 0, 1) := by decide +kernel
theorem dX7_reset_11 : decode cX7_reset 11 = .ok (.iconst 0, 1) := by decide +kernel
theorem dX7_reset_12 : decode cX7_reset 12 = .ok (.putfield 16, 3) := by decide +kernel
theorem dX7_reset_15 : decode cX7_reset 15 = .ok (.aload_n 0, 1) := by decide +kernel
theorem dX7_reset_16 : decode cX7_reset 16 = .ok (.iconst 0, 1) := by decide +kernel
theorem dX7_reset_17 : decode cX7_reset 17 = .ok (.putfield 19, 3) := by decide +kernel
theorem dX7_reset_20 : decode cX7_reset 20 = .ok (.aload_n 0, 1) := by decide +kernel
theorem dX7_reset_21 : decode cX7_reset 21 = .ok (.iconst 0, 1) := by decide +kernel
theorem dX7_reset_22 : decode cX7_reset 22 = .ok (.putfield 22, 3) := by decide +kernel
theorem dX7_reset_25 : decode cX7_reset 25 = .ok (.aload_n 0, 1) := by decide +kernel
theorem dX7_reset_26 : decode cX7_reset 26 = .ok (.iconst 0, 1) := by decide +kernel
theorem dX7_reset_27 : decode cX7_reset 27 = .ok (.putfield 25, 3) := by decide +kernel
theorem dX7_reset_30 : decode cX7_reset 30 = .ok (.aload_n 0, 1) := by decide +kernel
theorem dX7_reset_31 : decode cX7_reset 31 = .ok (.iconst 0, 1) := by decide +kernel
theorem dX7_reset_32 : decode cX7_reset 32 = .ok (.putfield 28, 3) := by decide +kernel
theorem dX7_reset_35 : decode cX7_reset 35 = .ok (.return_, 1) := by decide +kernel
def kX7_reset : Nat → WOp := cN 16 (cN 6 (cN 1 (cN 0 (cL 0 (o_aload 1 0)) (cL 1 (o_push 2 0))) (cN 2 (cL 2 (o_puti 5 6 0)) (cN 5 (cL 5 (o_aload 6 0)) (cL 6 (o_push 7 0))))) (cN 11 (cN 7 (cL 7 (o_puti 10 6 1)) (cN 10 (cL 10 (o_aload 11 0)) (cL 11 (o_push 12 0)))) (cN 12 (cL 12 (o_puti 15 6 2)) (cN 15 (cL 15 (o_aload 16 0)) (cL 16 (o_push 17 0)))))) (cN 25 (cN 20 (cN 17 (cL 17 (o_puti 20 6 3)) (cL 20 (o_aload 21 0))) (cN 21 (cL 21 (o_push 22 0)) (cN 22 (cL 22 (o_puti 25 6 4)) (cL 25 (o_aload 26 0))))) (cN 30 (cN 26 (cL 26 (o_push 27 0)) (cN 27 (cL 27 (o_puti 30 6 5)) (cL 30 (o_aload 31 0)))) (cN 31 (cL 31 (o_push 32 0)) (cN 32 (cL 32 (o_puti 35 6 6)) (cL 35 (o_vret))))))
theorem sX7_reset : ∀ pc, Snd tX7_reset G1 pc (kX7_reset pc) := s_N (s_N (s_N (s_N (s_L (s_aload_n dX7_reset_0 rfl)) (s_L (s_iconst dX7_reset_1 (by decide +kernel)))) (s_N (s_L (s_puti ok_6 (k := 0) (by decide) rfl (Or.inl rfl) dX7_reset_2 qw_140)) (s_N (s_L (s_aload_n dX7_reset_5 rfl)) (s_L (s_iconst dX7_reset_6 (by decide +kernel)))))) (s_N (s_N (s_L (s_puti ok_6 (k := 1) (by decide) rfl (Or.inl rfl) dX7_reset_7 qw_143)) (s_N (s_L (s_aload_n dX7_reset_10 rfl)) (s_L (s_iconst dX7_reset_11 (by decide +kernel))))) (s_N (s_L (s_puti ok_6 (k := 2) (by decide) rfl (Or.inl rfl) dX7_reset_12 qw_146)) (s_N (s_L (s_aload_n dX7_reset_15 rfl)) (s_L (s_iconst dX7_reset_16 (by decide +kernel))))))) (s_N (s_N (s_N (s_L (s_puti ok_6 (k := 3) (by decide) rfl (Or.inl rfl) dX7_reset_17 qw_149)) (s_L (s_aload_n dX7_reset_20 rfl))) (s_N (s_L (s_iconst dX7_reset_21 (by decide +kernel))) (s_N (s_L (s_puti ok_6 (k := 4) (by decide) rfl (Or.inl rfl) dX7_reset_22 qw_152)) (s_L (s_aload_n dX7_reset_25 rfl))))) (s_N (s_N (s_L (s_iconst dX7_reset_26 (by decide +kernel))) (s_N (s_L (s_puti ok_6 (k := 5) (by decide) rfl (Or.inl rfl) dX7_reset_27 qw_155)) (s_L (s_aload_n dX7_reset_30 rfl)))) (s_N (s_L (s_iconst dX7_reset_31 (by decide +kernel))) (s_N (s_L (s_puti ok_6 (k := 6) (by decide) rfl (Or.inl rfl) dX7_reset_32 qw_158)) (s_L (s_vret rfl dX7_reset_35))))))
/-! PlateArm$Tally.copyFrom -/
theorem dX7_copyFrom_0 : decode cX7_copyFrom 0 = .ok (.aload_n 0, 1) := by decide +kernel
theorem dX7_copyFrom_1 : decode cX7_copyFrom 1 = .ok (.aload_n 1, 1) := by decide +kernel
theorem dX7_copyFrom_2 : decode cX7_copyFrom 2 = .ok (.getfield 7, 3) := by decide +kernel
theorem dX7_copyFrom_5 : decode cX7_copyFrom 5 = .ok (.putfield 7, 3) := by decide +kernel
theorem dX7_copyFrom_8 : decode cX7_copyFrom 8 = .ok (.aload_n 0, 1) := by decide +kernel
theorem dX7_copyFrom_9 : decode cX7_copyFrom 9 = .ok (.aload_n 1, 1) := by decide +kernel
theorem dX7_copyFrom_10 : decode cX7_copyFrom 10 = .ok (.getfield 13, 3) := by decide +kernel
theorem dX7_copyFrom_13 : decode cX7_copyFrom 13 = .ok (.putfield 13, 3) := by decide +kernel
theorem dX7_copyFrom_16 : decode cX7_copyFrom 16 = .ok (.aload_n 0, 1) := by decide +kernel
theorem dX7_copyFrom_17 : decode cX7_copyFrom 17 = .ok (.aload_n 1, 1) := by decide +kernel
theorem dX7_copyFrom_18 : decode cX7_copyFrom 18 = .ok (.getfield 16, 3) := by decide +kernel
theorem dX7_copyFrom_21 : decode cX7_copyFrom 21 = .ok (.putfield 16, 3) := by decide +kernel
theorem dX7_copyFrom_24 : decode cX7_copyFrom 24 = .ok (.aload_n 0, 1) := by decide +kernel
theorem dX7_copyFrom_25 : decode cX7_copyFrom 25 = .ok (.aload_n 1, 1) := by decide +kernel
theorem dX7_copyFrom_26 : decode cX7_copyFrom 26 = .ok (.getfield 19, 3) := by decide +kernel
theorem dX7_copyFrom_29 : decode cX7_copyFrom 29 = .ok (.putfield 19, 3) := by decide +kernel
theorem dX7_copyFrom_32 : decode cX7_copyFrom 32 = .ok (.aload_n 0, 1) := by decide +kernel
theorem dX7_copyFrom_33 : decode cX7_copyFrom 33 = .ok (.aload_n 1, 1) := by decide +kernel
theorem dX7_copyFrom_34 : decode cX7_copyFrom 34 = .ok (.getfield 22, 3) := by decide +kernel
theorem dX7_copyFrom_37 : decode cX7_copyFrom 37 = .ok (.putfield 22, 3) := by decide +kernel
theorem dX7_copyFrom_40 : decode cX7_copyFrom 40 = .ok (.aload_n 0, 1) := by decide +kernel
theorem dX7_copyFrom_41 : decode cX7_copyFrom 41 = .ok (.aload_n 1, 1) := by decide +kernel
theorem dX7_copyFrom_42 : decode cX7_copyFrom 42 = .ok (.getfield 25, 3) := by decide +kernel
theorem dX7_copyFrom_45 : decode cX7_copyFrom 45 = .ok (.putfield 25, 3) := by decide +kernel
theorem dX7_copyFrom_48 : decode cX7_copyFrom 48 = .ok (.aload_n 0, 1) := by decide +kernel
theorem dX7_copyFrom_49 : decode cX7_copyFrom 49 = .ok (.aload_n 1, 1) := by decide +kernel
theorem dX7_copyFrom_50 : decode cX7_copyFrom 50 = .ok (.getfield 28, 3) := by decide +kernel
theorem dX7_copyFrom_53 : decode cX7_copyFrom 53 = .ok (.putfield 28, 3) := by decide +kernel
theorem dX7_copyFrom_56 : decode cX7_copyFrom 56 = .ok (.return_, 1) := by decide +kernel
def kX7_copyFrom : Nat → WOp := cN 25 (cN 10 (cN 2 (cN 0 (cL 0 (o_aload 1 0)) (cN 1 (cL 1 (o_aload 2 1)) (cL 2 (o_getf 5 6 0)))) (cN 8 (cN 5 (cL 5 (o_puti 8 6 0)) (cL 8 (o_aload 9 0))) (cN 9 (cL 9 (o_aload 10 1)) (cL 10 (o_getf 13 6 1))))) (cN 17 (cN 13 (cL 13 (o_puti 16 6 1)) (cN 16 (cL 16 (o_aload 17 0)) (cL 17 (o_aload 18 1)))) (cN 21 (cN 18 (cL 18 (o_getf 21 6 2)) (cL 21 (o_puti 24 6 2))) (cN 24 (cL 24 (o_aload 25 0)) (cL 25 (o_aload 26 1)))))) (cN 40 (cN 32 (cN 26 (cL 26 (o_getf 29 6 3)) (cN 29 (cL 29 (o_puti 32 6 3)) (cL 32 (o_aload 33 0)))) (cN 34 (cN 33 (cL 33 (o_aload 34 1)) (cL 34 (o_getf 37 6 4))) (cN 37 (cL 37 (o_puti 40 6 4)) (cL 40 (o_aload 41 0))))) (cN 48 (cN 42 (cN 41 (cL 41 (o_aload 42 1)) (cL 42 (o_getf 45 6 5))) (cN 45 (cL 45 (o_puti 48 6 5)) (cL 48 (o_aload 49 0)))) (cN 50 (cN 49 (cL 49 (o_aload 50 1)) (cL 50 (o_getf 53 6 6))) (cN 53 (cL 53 (o_puti 56 6 6)) (cL 56 (o_vret))))))
theorem sX7_copyFrom : ∀ pc, Snd tX7_copyFrom G1 pc (kX7_copyFrom pc) := s_N (s_N (s_N (s_N (s_L (s_aload_n dX7_copyFrom_0 rfl)) (s_N (s_L (s_aload_n dX7_copyFrom_1 rfl)) (s_L (s_getf ok_6 (k := 0) (by decide) dX7_copyFrom_2 qw_140)))) (s_N (s_N (s_L (s_puti ok_6 (k := 0) (by decide) rfl (Or.inl rfl) dX7_copyFrom_5 qw_140)) (s_L (s_aload_n dX7_copyFrom_8 rfl))) (s_N (s_L (s_aload_n dX7_copyFrom_9 rfl)) (s_L (s_getf ok_6 (k := 1) (by decide) dX7_copyFrom_10 qw_143))))) (s_N (s_N (s_L (s_puti ok_6 (k := 1) (by decide) rfl (Or.inl rfl) dX7_copyFrom_13 qw_143)) (s_N (s_L (s_aload_n dX7_copyFrom_16 rfl)) (s_L (s_aload_n dX7_copyFrom_17 rfl)))) (s_N (s_N (s_L (s_getf ok_6 (k := 2) (by decide) dX7_copyFrom_18 qw_146)) (s_L (s_puti ok_6 (k := 2) (by decide) rfl (Or.inl rfl) dX7_copyFrom_21 qw_146))) (s_N (s_L (s_aload_n dX7_copyFrom_24 rfl)) (s_L (s_aload_n dX7_copyFrom_25 rfl)))))) (s_N (s_N (s_N (s_L (s_getf ok_6 (k := 3) (by decide) dX7_copyFrom_26 qw_149)) (s_N (s_L (s_puti ok_6 (k := 3) (by decide) rfl (Or.inl rfl) dX7_copyFrom_29 qw_149)) (s_L (s_aload_n dX7_copyFrom_32 rfl)))) (s_N (s_N (s_L (s_aload_n dX7_copyFrom_33 rfl)) (s_L (s_getf ok_6 (k := 4) (by decide) dX7_copyFrom_34 qw_152))) (s_N (s_L (s_puti ok_6 (k := 4) (by decide) rfl (Or.inl rfl) dX7_copyFrom_37 qw_152)) (s_L (s_aload_n dX7_copyFrom_40 rfl))))) (s_N (s_N (s_N (s_L (s_aload_n dX7_copyFrom_41 rfl)) (s_L (s_getf ok_6 (k := 5) (by decide) dX7_copyFrom_42 qw_155))) (s_N (s_L (s_puti ok_6 (k := 5) (by decide) rfl (Or.inl rfl) dX7_copyFrom_45 qw_155)) (s_L (s_aload_n dX7_copyFrom_48 rfl)))) (s_N (s_N (s_L (s_aload_n dX7_copyFrom_49 rfl)) (s_L (s_getf ok_6 (k := 6) (by decide) dX7_copyFrom_50 qw_158))) (s_N (s_L (s_puti ok_6 (k := 6) (by decide) rfl (Or.inl rfl) dX7_copyFrom_53 qw_158)) (s_L (s_vret rfl dX7_copyFrom_56))))))
