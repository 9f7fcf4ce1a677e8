/-! PlateArm$Arm.<init> -/
theorem dX1_init_0 : decode cX1_init 0 = .ok (.aload_n 0, 1) := by decide +kernel
theorem dX1_init_1 : decode cX1_init 1 = .ok (.invokespecial 1, 3) := by decide +kernel
theorem dX1_init_4 : decode cX1_init 4 = .ok (.aload_n 0, 1) := by decide +kernel
theorem dX1_init_5 : decode cX1_init 5 = .ok (.iconst 0, 1) := by decide +kernel
theorem dX1_init_6 : decode cX1_init 6 = .ok (.putfield 9, 3) := by decide +kernel
theorem dX1_init_9 : decode cX1_init 9 = .ok (.aload_n 0, 1) := by decide +kernel
theorem dX1_init_10 : decode cX1_init 10 = .ok (.iconst 1, 1) := by decide +kernel
theorem dX1_init_11 : decode cX1_init 11 = .ok (.putfield 13, 3) := by decide +kernel
theorem dX1_init_14 : decode cX1_init 14 = .ok (.return_, 1) := by decide +kernel
def kX1_init : Nat → WOp := cN 5 (cN 1 (cN 0 (cL 0 (o_aload 1 0)) (cL 1 (o_objinit 4))) (cN 4 (cL 4 (o_aload 5 0)) (cL 5 (o_push 6 0)))) (cN 9 (cN 6 (cL 6 (o_puti 9 0 1)) (cL 9 (o_aload 10 0))) (cN 10 (cL 10 (o_push 11 1)) (cN 11 (cL 11 (o_puti 14 0 4)) (cL 14 (o_vret)))))
theorem sX1_init : ∀ pc, Snd tX1_init G1 pc (kX1_init pc) := s_N (s_N (s_N (s_L (s_aload_n dX1_init_0 rfl)) (s_L (s_objinit qw_52 qw_39 qw_40 (by decide) (by decide) dX1_init_1))) (s_N (s_L (s_aload_n dX1_init_4 rfl)) (s_L (s_iconst dX1_init_5 (by decide +kernel))))) (s_N (s_N (s_L (s_puti ok_0 (k := 1) (by decide) rfl (Or.inl rfl) dX1_init_6 qw_56)) (s_L (s_aload_n dX1_init_9 rfl))) (s_N (s_L (s_iconst dX1_init_10 (by decide +kernel))) (s_N (s_L (s_puti ok_0 (k := 4) (by decide) rfl (Or.inl rfl) dX1_init_11 qw_65)) (s_L (s_vret rfl dX1_init_14)))))
/-! PlateArm$Arm.opposite -/
theorem dX1_opposite_0 : decode cX1_opposite 0 = .ok (.iload_n 0, 1) := by decide +kernel
theorem dX1_opposite_1 : decode cX1_opposite 1 = .ok (.iconst 1, 1) := by decide +kernel
theorem dX1_opposite_2 : decode cX1_opposite 2 = .ok (.if_icmp .ne 7, 3) := by decide +kernel
theorem dX1_opposite_5 : decode cX1_opposite 5 = .ok (.iconst 2, 1) := by decide +kernel
theorem dX1_opposite_6 : decode cX1_opposite 6 = .ok (.goto 4, 3) := by decide +kernel
theorem dX1_opposite_9 : decode cX1_opposite 9 = .ok (.iconst 1, 1) := by decide +kernel
theorem dX1_opposite_10 : decode cX1_opposite 10 = .ok (.ireturn, 1) := by decide +kernel
def kX1_opposite : Nat → WOp := cN 2 (cN 0 (cL 0 (o_iload 1 0)) (cN 1 (cL 1 (o_push 2 1)) (cL 2 (o_icmp_ne 9 5)))) (cN 6 (cN 5 (cL 5 (o_push 6 2)) (cL 6 (o_goto 10))) (cN 9 (cL 9 (o_push 10 1)) (cL 10 (o_iret))))
theorem sX1_opposite : ∀ pc, Snd tX1_opposite G1 pc (kX1_opposite pc) := s_N (s_N (s_L (s_iload_n dX1_opposite_0 rfl)) (s_N (s_L (s_iconst dX1_opposite_1 (by decide +kernel))) (s_L (s_o_icmp_ne dX1_opposite_2 (by decide))))) (s_N (s_N (s_L (s_iconst dX1_opposite_5 (by decide +kernel))) (s_L (s_o_goto dX1_opposite_6 (by decide)))) (s_N (s_L (s_iconst dX1_opposite_9 (by decide +kernel))) (s_L (s_iret rfl dX1_opposite_10))))
/-! PlateArm$Arm.reset -/
theorem dX1_reset_0 : decode cX1_reset 0 = .ok (.aload_n 0, 1) := by decide +kernel
theorem dX1_reset_1 : decode cX1_reset 1 = .ok (.iconst 0, 1) := by decide +kernel
theorem dX1_reset_2 : decode cX1_reset 2 = .ok (.putfield 16, 3) := by decide +kernel
theorem dX1_reset_5 : decode cX1_reset 5 = .ok (.aload_n 0, 1) := by decide +kernel
theorem dX1_reset_6 : decode cX1_reset 6 = .ok (.iconst 0, 1) := by decide +kernel
theorem dX1_reset_7 : decode cX1_reset 7 = .ok (.putfield 9, 3) := by decide +kernel
theorem dX1_reset_10 : decode cX1_reset 10 = .ok (.aload_n 0, 1) := by decide +kernel
theorem dX1_reset_11 : decode cX1_reset 11 = .ok (.iconst 0, 1) := by decide +kernel
theorem dX1_reset_12 : decode cX1_reset 12 = .ok (.putfield 19, 3) := by decide +kernel
theorem dX1_reset_15 : decode cX1_reset 15 = .ok (.aload_n 0, 1) := by decide +kernel
theorem dX1_reset_16 : decode cX1_reset 16 = .ok (.iconst 0, 1) := by decide +kernel
theorem dX1_reset_17 : decode cX1_reset 17 = .ok (.putfield 22, 3) := by decide +kernel
theorem dX1_reset_20 : decode cX1_reset 20 = .ok (.aload_n 0, 1) := by decide +kernel
theorem dX1_reset_21 : decode cX1_reset 21 = .ok (.iconst 1, 1) := by decide +kernel
theorem dX1_reset_22 : decode cX1_reset 22 = .ok (.putfield 13, 3) := by decide +kernel
theorem dX1_reset_25 : decode cX1_reset 25 = .ok (.return_, 1) := by decide +kernel
def kX1_reset : Nat → WOp := cN 11 (cN 5 (cN 1 (cN 0 (cL 0 (o_aload 1 0)) (cL 1 (o_push 2 0))) (cN 2 (cL 2 (o_puti 5 0 0)) (cL 5 (o_aload 6 0)))) (cN 7 (cN 6 (cL 6 (o_push 7 0)) (cL 7 (o_puti 10 0 1))) (cN 10 (cL 10 (o_aload 11 0)) (cL 11 (o_push 12 0))))) (cN 17 (cN 15 (cN 12 (cL 12 (o_puti 15 0 2)) (cL 15 (o_aload 16 0))) (cN 16 (cL 16 (o_push 17 0)) (cL 17 (o_putf 20 0 3 (.boolean))))) (cN 21 (cN 20 (cL 20 (o_aload 21 0)) (cL 21 (o_push 22 1))) (cN 22 (cL 22 (o_puti 25 0 4)) (cL 25 (o_vret)))))
theorem sX1_reset : ∀ pc, Snd tX1_reset G1 pc (kX1_reset pc) := s_N (s_N (s_N (s_N (s_L (s_aload_n dX1_reset_0 rfl)) (s_L (s_iconst dX1_reset_1 (by decide +kernel)))) (s_N (s_L (s_puti ok_0 (k := 0) (by decide) rfl (Or.inl rfl) dX1_reset_2 qw_53)) (s_L (s_aload_n dX1_reset_5 rfl)))) (s_N (s_N (s_L (s_iconst dX1_reset_6 (by decide +kernel))) (s_L (s_puti ok_0 (k := 1) (by decide) rfl (Or.inl rfl) dX1_reset_7 qw_56))) (s_N (s_L (s_aload_n dX1_reset_10 rfl)) (s_L (s_iconst dX1_reset_11 (by decide +kernel)))))) (s_N (s_N (s_N (s_L (s_puti ok_0 (k := 2) (by decide) rfl (Or.inl rfl) dX1_reset_12 qw_59)) (s_L (s_aload_n dX1_reset_15 rfl))) (s_N (s_L (s_iconst dX1_reset_16 (by decide +kernel))) (s_L (s_putf ok_0 (k := 3) (by decide) rfl (Or.inl rfl) dX1_reset_17 qw_62)))) (s_N (s_N (s_L (s_aload_n dX1_reset_20 rfl)) (s_L (s_iconst dX1_reset_21 (by decide +kernel)))) (s_N (s_L (s_puti ok_0 (k := 4) (by decide) rfl (Or.inl rfl) dX1_reset_22 qw_65)) (s_L (s_vret rfl dX1_reset_25)))))
/-! PlateArm$Arm.copyFrom -/
theorem dX1_copyFrom_0 : decode cX1_copyFrom 0 = .ok (.aload_n 0, 1) := by decide +kernel
theorem dX1_copyFrom_1 : decode cX1_copyFrom 1 = .ok (.aload_n 1, 1) := by decide +kernel
theorem dX1_copyFrom_2 : decode cX1_copyFrom 2 = .ok (.getfield 16, 3) := by decide +kernel
theorem dX1_copyFrom_5 : decode cX1_copyFrom 5 = .ok (.putfield 16, 3) := by decide +kernel
theorem dX1_copyFrom_8 : decode cX1_copyFrom 8 = .ok (.aload_n 0, 1) := by decide +kernel
theorem dX1_copyFrom_9 : decode cX1_copyFrom 9 = .ok (.aload_n 1, 1) := by decide +kernel
theorem dX1_copyFrom_10 : decode cX1_copyFrom 10 = .ok (.getfield 9, 3) := by decide +kernel
theorem dX1_copyFrom_13 : decode cX1_copyFrom 13 = .ok (.putfield 9, 3) := by decide +kernel
theorem dX1_copyFrom_16 : decode cX1_copyFrom 16 = .ok (.aload_n 0, 1) := by decide +kernel
theorem dX1_copyFrom_17 : decode cX1_copyFrom 17 = .ok (.aload_n 1, 1) := by decide +kernel
theorem dX1_copyFrom_18 : decode cX1_copyFrom 18 = .ok (.getfield 19, 3) := by decide +kernel
theorem dX1_copyFrom_21 : decode cX1_copyFrom 21 = .ok (.putfield 19, 3) := by decide +kernel
theorem dX1_copyFrom_24 : decode cX1_copyFrom 24 = .ok (.aload_n 0, 1) := by decide +kernel
theorem dX1_copyFrom_25 : decode cX1_copyFrom 25 = .ok (.aload_n 1, 1) := by decide +kernel
theorem dX1_copyFrom_26 : decode cX1_copyFrom 26 = .ok (.getfield 22, 3) := by decide +kernel
theorem dX1_copyFrom_29 : decode cX1_copyFrom 29 = .ok (.putfield 22, 3) := by decide +kernel
theorem dX1_copyFrom_32 : decode cX1_copyFrom 32 = .ok (.aload_n 0, 1) := by decide +kernel
theorem dX1_copyFrom_33 : decode cX1_copyFrom 33 = .ok (.aload_n 1, 1) := by decide +kernel
theorem dX1_copyFrom_34 : decode cX1_copyFrom 34 = .ok (.getfield 13, 3) := by decide +kernel
theorem dX1_copyFrom_37 : decode cX1_copyFrom 37 = .ok (.putfield 13, 3) := by decide +kernel
theorem dX1_copyFrom_40 : decode cX1_copyFrom 40 = .ok (.return_, 1) := by decide +kernel
def kX1_copyFrom : Nat → WOp := cN 17 (cN 8 (cN 1 (cN 0 (cL 0 (o_aload 1 0)) (cL 1 (o_aload 2 1))) (cN 2 (cL 2 (o_getf 5 0 0)) (cN 5 (cL 5 (o_puti 8 0 0)) (cL 8 (o_aload 9 0))))) (cN 10 (cN 9 (cL 9 (o_aload 10 1)) (cL 10 (o_getf 13 0 1))) (cN 13 (cL 13 (o_puti 16 0 1)) (cN 16 (cL 16 (o_aload 17 0)) (cL 17 (o_aload 18 1)))))) (cN 26 (cN 21 (cN 18 (cL 18 (o_getf 21 0 2)) (cL 21 (o_puti 24 0 2))) (cN 24 (cL 24 (o_aload 25 0)) (cN 25 (cL 25 (o_aload 26 1)) (cL 26 (o_getf 29 0 3))))) (cN 33 (cN 29 (cL 29 (o_putf 32 0 3 (.boolean))) (cN 32 (cL 32 (o_aload 33 0)) (cL 33 (o_aload 34 1)))) (cN 34 (cL 34 (o_getf 37 0 4)) (cN 37 (cL 37 (o_puti 40 0 4)) (cL 40 (o_vret))))))
theorem sX1_copyFrom : ∀ pc, Snd tX1_copyFrom G1 pc (kX1_copyFrom pc) := s_N (s_N (s_N (s_N (s_L (s_aload_n dX1_copyFrom_0 rfl)) (s_L (s_aload_n dX1_copyFrom_1 rfl))) (s_N (s_L (s_getf ok_0 (k := 0) (by decide) dX1_copyFrom_2 qw_53)) (s_N (s_L (s_puti ok_0 (k := 0) (by decide) rfl (Or.inl rfl) dX1_copyFrom_5 qw_53)) (s_L (s_aload_n dX1_copyFrom_8 rfl))))) (s_N (s_N (s_L (s_aload_n dX1_copyFrom_9 rfl)) (s_L (s_getf ok_0 (k := 1) (by decide) dX1_copyFrom_10 qw_56))) (s_N (s_L (s_puti ok_0 (k := 1) (by decide) rfl (Or.inl rfl) dX1_copyFrom_13 qw_56)) (s_N (s_L (s_aload_n dX1_copyFrom_16 rfl)) (s_L (s_aload_n dX1_copyFrom_17 rfl)))))) (s_N (s_N (s_N (s_L (s_getf ok_0 (k := 2) (by decide) dX1_copyFrom_18 qw_59)) (s_L (s_puti ok_0 (k := 2) (by decide) rfl (Or.inl rfl) dX1_copyFrom_21 qw_59))) (s_N (s_L (s_aload_n dX1_copyFrom_24 rfl)) (s_N (s_L (s_aload_n dX1_copyFrom_25 rfl)) (s_L (s_getf ok_0 (k := 3) (by decide) dX1_copyFrom_26 qw_62))))) (s_N (s_N (s_L (s_putf ok_0 (k := 3) (by decide) rfl (Or.inl rfl) dX1_copyFrom_29 qw_62)) (s_N (s_L (s_aload_n dX1_copyFrom_32 rfl)) (s_L (s_aload_n dX1_copyFrom_33 rfl)))) (s_N (s_L (s_getf ok_0 (k := 4) (by decide) dX1_copyFrom_34 qw_65)) (s_N (s_L (s_puti ok_0 (k := 4) (by decide) rfl (Or.inl rfl) dX1_copyFrom_37 qw_65)) (s_L (s_vret rfl dX1_copyFrom_40))))))
/-! PlateArm$Arm.liesFarther -/
theorem dX1_liesFarther_0 : decode cX1_liesFarther 0 = .ok (.aload_n 0, 1) := by decide +kernel
theorem dX1_liesFarther_1 : decode cX1_liesFarther 1 = .ok (.getfield 9, 3) := by decide +kernel
theorem dX1_liesFarther_4 : decode cX1_liesFarther 4 = .ok (.iconst 1, 1) := by decide +kernel
theorem dX1_liesFarther_5 : decode cX1_liesFarther 5 = .ok (.if_icmp .ne 19, 3) := by decide +kernel
theorem dX1_liesFarther_8 : decode cX1_liesFarther 8 = .ok (.iload_n 1, 1) := by decide +kernel
theorem dX1_liesFarther_9 : decode cX1_liesFarther 9 = .ok (.aload_n 0, 1) := by decide +kernel
theorem dX1_liesFarther_10 : decode cX1_liesFarther 10 = .ok (.getfield 16, 3) := by decide +kernel
theorem dX1_liesFarther_13 : decode cX1_liesFarther 13 = .ok (.if_icmp .le 7, 3) := by decide +kernel
theorem dX1_liesFarther_16 : decode cX1_liesFarther 16 = .ok (.iconst 1, 1) := by decide +kernel
theorem dX1_liesFarther_17 : decode cX1_liesFarther 17 = .ok (.goto 20, 3) := by decide +kernel
theorem dX1_liesFarther_20 : decode cX1_liesFarther 20 = .ok (.iconst 0, 1) := by decide +kernel
theorem dX1_liesFarther_21 : decode cX1_liesFarther 21 = .ok (.goto 16, 3) := by decide +kernel
theorem dX1_liesFarther_24 : decode cX1_liesFarther 24 = .ok (.iload_n 1, 1) := by decide +kernel
theorem dX1_liesFarther_25 : decode cX1_liesFarther 25 = .ok (.aload_n 0, 1) := by decide +kernel
theorem dX1_liesFarther_26 : decode cX1_liesFarther 26 = .ok (.getfield 16, 3) := by decide +kernel
theorem dX1_liesFarther_29 : decode cX1_liesFarther 29 = .ok (.if_icmp .ge 7, 3) := by decide +kernel
theorem dX1_liesFarther_32 : decode cX1_liesFarther 32 = .ok (.iconst 1, 1) := by decide +kernel
theorem dX1_liesFarther_33 : decode cX1_liesFarther 33 = .ok (.goto 4, 3) := by decide +kernel
theorem dX1_liesFarther_36 : decode cX1_liesFarther 36 = .ok (.iconst 0, 1) := by decide +kernel
theorem dX1_liesFarther_37 : decode cX1_liesFarther 37 = .ok (.ireturn, 1) := by decide +kernel
def kX1_liesFarther : Nat → WOp := cN 17 (cN 8 (cN 1 (cN 0 (cL 0 (o_aload 1 0)) (cL 1 (o_getf 4 0 1))) (cN 4 (cL 4 (o_push 5 1)) (cN 5 (cL 5 (o_icmp_ne 24 8)) (cL 8 (o_iload 9 1))))) (cN 10 (cN 9 (cL 9 (o_aload 10 0)) (cL 10 (o_getf 13 0 0))) (cN 13 (cL 13 (o_icmp_le 20 16)) (cN 16 (cL 16 (o_push 17 1)) (cL 17 (o_goto 37)))))) (cN 26 (cN 21 (cN 20 (cL 20 (o_push 21 0)) (cL 21 (o_goto 37))) (cN 24 (cL 24 (o_iload 25 1)) (cN 25 (cL 25 (o_aload 26 0)) (cL 26 (o_getf 29 0 0))))) (cN 32 (cN 29 (cL 29 (o_icmp_ge 36 32)) (cL 32 (o_push 33 1))) (cN 33 (cL 33 (o_goto 37)) (cN 36 (cL 36 (o_push 37 0)) (cL 37 (o_zret))))))
theorem sX1_liesFarther : ∀ pc, Snd tX1_liesFarther G1 pc (kX1_liesFarther pc) := s_N (s_N (s_N (s_N (s_L (s_aload_n dX1_liesFarther_0 rfl)) (s_L (s_getf ok_0 (k := 1) (by decide) dX1_liesFarther_1 qw_56))) (s_N (s_L (s_iconst dX1_liesFarther_4 (by decide +kernel))) (s_N (s_L (s_o_icmp_ne dX1_liesFarther_5 (by decide))) (s_L (s_iload_n dX1_liesFarther_8 rfl))))) (s_N (s_N (s_L (s_aload_n dX1_liesFarther_9 rfl)) (s_L (s_getf ok_0 (k := 0) (by decide) dX1_liesFarther_10 qw_53))) (s_N (s_L (s_o_icmp_le dX1_liesFarther_13 (by decide))) (s_N (s_L (s_iconst dX1_liesFarther_16 (by decide +kernel))) (s_L (s_o_goto dX1_liesFarther_17 (by decide))))))) (s_N (s_N (s_N (s_L (s_iconst dX1_liesFarther_20 (by decide +kernel))) (s_L (s_o_goto dX1_liesFarther_21 (by decide)))) (s_N (s_L (s_iload_n dX1_liesFarther_24 rfl)) (s_N (s_L (s_aload_n dX1_liesFarther_25 rfl)) (s_L (s_getf ok_0 (k := 0) (by decide) dX1_liesFarther_26 qw_53))))) (s_N (s_N (s_L (s_o_icmp_ge dX1_liesFarther_29 (by decide))) (s_L (s_iconst dX1_liesFarther_32 (by decide +kernel)))) (s_N (s_L (s_o_goto dX1_liesFarther_33 (by decide))) (s_N (s_L (s_iconst dX1_liesFarther_36 (by decide +kernel))) (s_L (s_zret rfl dX1_liesFarther_37))))))
/-! PlateArm$Arm.step -/
theorem dX1_step_0 : decode cX1_step 0 = .ok (.aload_n 0, 1) := by decide +kernel
theorem dX1_step_1 : decode cX1_step 1 = .ok (.dup, 1) := by decide +kernel
theorem dX1_step_2 : decode cX1_step 2 = .ok (.getfield 16, 3) := by decide +kernel
theorem dX1_step_5 : decode cX1_step 5 = .ok (.aload_n 0, 1) := by decide +kernel
theorem dX1_step_6 : decode cX1_step 6 = .ok (.getfield 9, 3) := by decide +kernel
theorem dX1_step_9 : decode cX1_step 9 = .ok (.iconst 1, 1) := by decide +kernel
theorem dX1_step_10 : decode cX1_step 10 = .ok (.if_icmp .ne 7, 3) := by decide +kernel
theorem dX1_step_13 : decode cX1_step 13 = .ok (.iconst 1, 1) := by decide +kernel
theorem dX1_step_14 : decode cX1_step 14 = .ok (.goto 4, 3) := by decide +kernel
theorem dX1_step_17 : decode cX1_step 17 = .ok (.iconst (-1), 1) := by decide +kernel
theorem dX1_step_18 : decode cX1_step 18 = .ok (.iadd, 1) := by decide +kernel
theorem dX1_step_19 : decode cX1_step 19 = .ok (.putfield 16, 3) := by decide +kernel
theorem dX1_step_22 : decode cX1_step 22 = .ok (.return_, 1) := by decide +kernel
def kX1_step : Nat → WOp := cN 9 (cN 2 (cN 0 (cL 0 (o_aload 1 0)) (cN 1 (cL 1 (o_dup 2)) (cL 2 (o_getf 5 0 0)))) (cN 5 (cL 5 (o_aload 6 0)) (cN 6 (cL 6 (o_getf 9 0 1)) (cL 9 (o_push 10 1))))) (cN 14 (cN 10 (cL 10 (o_icmp_ne 17 13)) (cN 13 (cL 13 (o_push 14 1)) (cL 14 (o_goto 18)))) (cN 18 (cN 17 (cL 17 (o_push 18 (-1))) (cL 18 (o_iadd 19))) (cN 19 (cL 19 (o_puti 22 0 0)) (cL 22 (o_vret)))))
theorem sX1_step : ∀ pc, Snd tX1_step G1 pc (kX1_step pc) := s_N (s_N (s_N (s_L (s_aload_n dX1_step_0 rfl)) (s_N (s_L (s_o_dup dX1_step_1)) (s_L (s_getf ok_0 (k := 0) (by decide) dX1_step_2 qw_53)))) (s_N (s_L (s_aload_n dX1_step_5 rfl)) (s_N (s_L (s_getf ok_0 (k := 1) (by decide) dX1_step_6 qw_56)) (s_L (s_iconst dX1_step_9 (by decide +kernel)))))) (s_N (s_N (s_L (s_o_icmp_ne dX1_step_10 (by decide))) (s_N (s_L (s_iconst dX1_step_13 (by decide +kernel))) (s_L (s_o_goto dX1_step_14 (by decide))))) (s_N (s_N (s_L (s_iconst dX1_step_17 (by decide +kernel))) (s_L (s_o_iadd dX1_step_18))) (s_N (s_L (s_puti ok_0 (k := 0) (by decide) rfl (Or.inl rfl) dX1_step_19 qw_53)) (s_L (s_vret rfl dX1_step_22)))))
/-! PlateArm$Arm.cool -/
theorem dX1_cool_0 : decode cX1_cool 0 = .ok (.aload_n 0, 1) := by decide +kernel
theorem dX1_cool_1 : decode cX1_cool 1 = .ok (.getfield 19, 3) := by decide +kernel
theorem dX1_cool_4 : decode cX1_cool 4 = .ok (.ifCond .le 13, 3) := by decide +kernel
theorem dX1_cool_7 : decode cX1_cool 7 = .ok (.aload_n 0, 1) := by decide +kernel
theorem dX1_cool_8 : decode cX1_cool 8 = .ok (.dup, 1) := by decide +kernel
theorem dX1_cool_9 : decode cX1_cool 9 = .ok (.getfield 19, 3) := by decide +kernel
theorem dX1_cool_12 : decode cX1_cool 12 = .ok (.iconst 1, 1) := by decide +kernel
theorem dX1_cool_13 : decode cX1_cool 13 = .ok (.isub, 1) := by decide +kernel
theorem dX1_cool_14 : decode cX1_cool 14 = .ok (.putfield 19, 3) := by decide +kernel
theorem dX1_cool_17 : decode cX1_cool 17 = .ok (.aload_n 0, 1) := by decide +kernel
theorem dX1_cool_18 : decode cX1_cool 18 = .ok (.getfield 19, 3) := by decide +kernel
theorem dX1_cool_21 : decode cX1_cool 21 = .ok (.iload_n 1, 1) := by decide +kernel
theorem dX1_cool_22 : decode cX1_cool 22 = .ok (.if_icmp .lt 11, 3) := by decide +kernel
theorem dX1_cool_25 : decode cX1_cool 25 = .ok (.aload_n 0, 1) := by decide +kernel
theorem dX1_cool_26 : decode cX1_cool 26 = .ok (.iconst 1, 1) := by decide +kernel
theorem dX1_cool_27 : decode cX1_cool 27 = .ok (.putfield 22, 3) := by decide +kernel
theorem dX1_cool_30 : decode cX1_cool 30 = .ok (.goto 18, 3) := by decide +kernel
theorem dX1_cool_33 : decode cX1_cool 33 = .ok (.aload_n 0, 1) := by decide +kernel
theorem dX1_cool_34 : decode cX1_cool 34 = .ok (.getfield 19, 3) := by decide +kernel
theorem dX1_cool_37 : decode cX1_cool 37 = .ok (.iload_n 1, 1) := by decide +kernel
theorem dX1_cool_38 : decode cX1_cool 38 = .ok (.iconst 2, 1) := by decide +kernel
theorem dX1_cool_39 : decode cX1_cool 39 = .ok (.idiv, 1) := by decide +kernel
theorem dX1_cool_40 : decode cX1_cool 40 = .ok (.if_icmp .gt 8, 3) := by decide +kernel
theorem dX1_cool_43 : decode cX1_cool 43 = .ok (.aload_n 0, 1) := by decide +kernel
theorem dX1_cool_44 : decode cX1_cool 44 = .ok (.iconst 0, 1) := by decide +kernel
theorem dX1_cool_45 : decode cX1_cool 45 = .ok (.putfield 22, 3) := by decide +kernel
theorem dX1_cool_48 : decode cX1_cool 48 = .ok (.return_, 1) := by decide +kernel
def kX1_cool : Nat → WOp := cN 22 (cN 9 (cN 4 (cN 0 (cL 0 (o_aload 1 0)) (cN 1 (cL 1 (o_getf 4 0 2)) (cL 4 (o_if_le 17 7)))) (cN 7 (cL 7 (o_aload 8 0)) (cN 8 (cL 8 (o_dup 9)) (cL 9 (o_getf 12 0 2))))) (cN 14 (cN 12 (cL 12 (o_push 13 1)) (cN 13 (cL 13 (o_isub 14)) (cL 14 (o_puti 17 0 2)))) (cN 18 (cN 17 (cL 17 (o_aload 18 0)) (cL 18 (o_getf 21 0 2))) (cN 21 (cL 21 (o_iload 22 1)) (cL 22 (o_icmp_lt 33 25)))))) (cN 37 (cN 27 (cN 25 (cL 25 (o_aload 26 0)) (cN 26 (cL 26 (o_push 27 1)) (cL 27 (o_putf 30 0 3 (.boolean))))) (cN 33 (cN 30 (cL 30 (o_goto 48)) (cL 33 (o_aload 34 0))) (cN 34 (cL 34 (o_getf 37 0 2)) (cL 37 (o_iload 38 1))))) (cN 40 (cN 38 (cL 38 (o_push 39 2)) (cN 39 (cL 39 (o_idiv 40)) (cL 40 (o_icmp_gt 48 43)))) (cN 44 (cN 43 (cL 43 (o_aload 44 0)) (cL 44 (o_push 45 0))) (cN 45 (cL 45 (o_putf 48 0 3 (.boolean))) (cL 48 (o_vret))))))
theorem sX1_cool : ∀ pc, Snd tX1_cool G1 pc (kX1_cool pc) := s_N (s_N (s_N (s_N (s_L (s_aload_n dX1_cool_0 rfl)) (s_N (s_L (s_getf ok_0 (k := 2) (by decide) dX1_cool_1 qw_59)) (s_L (s_o_if_le dX1_cool_4 (by decide))))) (s_N (s_L (s_aload_n dX1_cool_7 rfl)) (s_N (s_L (s_o_dup dX1_cool_8)) (s_L (s_getf ok_0 (k := 2) (by decide) dX1_cool_9 qw_59))))) (s_N (s_N (s_L (s_iconst dX1_cool_12 (by decide +kernel))) (s_N (s_L (s_o_isub dX1_cool_13)) (s_L (s_puti ok_0 (k := 2) (by decide) rfl (Or.inl rfl) dX1_cool_14 qw_59)))) (s_N (s_N (s_L (s_aload_n dX1_cool_17 rfl)) (s_L (s_getf ok_0 (k := 2) (by decide) dX1_cool_18 qw_59))) (s_N (s_L (s_iload_n dX1_cool_21 rfl)) (s_L (s_o_icmp_lt dX1_cool_22 (by decide))))))) (s_N (s_N (s_N (s_L (s_aload_n dX1_cool_25 rfl)) (s_N (s_L (s_iconst dX1_cool_26 (by decide +kernel))) (s_L (s_putf ok_0 (k := 3) (by decide) rfl (Or.inl rfl) dX1_cool_27 qw_62)))) (s_N (s_N (s_L (s_o_goto dX1_cool_30 (by decide))) (s_L (s_aload_n dX1_cool_33 rfl))) (s_N (s_L (s_getf ok_0 (k := 2) (by decide) dX1_cool_34 qw_59)) (s_L (s_iload_n dX1_cool_37 rfl))))) (s_N (s_N (s_L (s_iconst dX1_cool_38 (by decide +kernel))) (s_N (s_L (s_o_idiv dX1_cool_39)) (s_L (s_o_icmp_gt dX1_cool_40 (by decide))))) (s_N (s_N (s_L (s_aload_n dX1_cool_43 rfl)) (s_L (s_iconst dX1_cool_44 (by decide +kernel)))) (s_N (s_L (s_putf ok_0 (k := 3) (by decide) rfl (Or.inl rfl) dX1_cool_45 qw_62)) (s_L (s_vret rfl dX1_cool_48))))))
