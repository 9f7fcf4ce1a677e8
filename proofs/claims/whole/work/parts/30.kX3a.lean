/-! PlateArm$CommandText.<init> -/
theorem dX3_init_0 : decode cX3_init 0 = .ok (.aload_n 0, 1) := by decide +kernel
theorem dX3_init_1 : decode cX3_init 1 = .ok (.invokespecial 3, 3) := by decide +kernel
theorem dX3_init_4 : decode cX3_init 4 = .ok (.aload_n 0, 1) := by decide +kernel
theorem dX3_init_5 : decode cX3_init 5 = .ok (.sipush 150, 3) := by decide +kernel
theorem dX3_init_8 : decode cX3_init 8 = .ok (.newarray .byte, 2) := by decide +kernel
theorem dX3_init_10 : decode cX3_init 10 = .ok (.putfield 11, 3) := by decide +kernel
theorem dX3_init_13 : decode cX3_init 13 = .ok (.return_, 1) := by decide +kernel
def kX3_init : Nat → WOp := cN 4 (cN 0 (cL 0 (o_aload 1 0)) (cN 1 (cL 1 (o_objinit 4)) (cL 4 (o_aload 5 0)))) (cN 8 (cN 5 (cL 5 (o_push 8 150)) (cL 8 (o_newa 10 1 150))) (cN 10 (cL 10 (o_putf 13 2 1 (.array .byte))) (cL 13 (o_vret))))
theorem sX3_init : ∀ pc, Snd tX3_init G1 pc (kX3_init pc) := s_N (s_N (s_L (s_aload_n dX3_init_0 rfl)) (s_N (s_L (s_objinit qw_279 qw_101 qw_102 (by decide) (by decide) dX3_init_1)) (s_L (s_aload_n dX3_init_4 rfl)))) (s_N (s_N (s_L (s_sipush dX3_init_5 (by decide +kernel))) (s_L (s_newa (t := 1) (N := 150) (ty := .byte) rfl (by decide) (by decide) qw_289 dX3_init_8))) (s_N (s_L (s_putf ok_2 (k := 1) (by decide) rfl (Or.inr ⟨rfl, rfl, rfl⟩) dX3_init_10 qw_283)) (s_L (s_vret rfl dX3_init_13))))
/-! PlateArm$CommandText.isFull -/
theorem dX3_isFull_0 : decode cX3_isFull 0 = .ok (.aload_n 0, 1) := by decide +kernel
theorem dX3_isFull_1 : decode cX3_isFull 1 = .ok (.getfield 15, 3) := by decide +kernel
theorem dX3_isFull_4 : decode cX3_isFull 4 = .ok (.sipush 150, 3) := by decide +kernel
theorem dX3_isFull_7 : decode cX3_isFull 7 = .ok (.if_icmp .lt 7, 3) := by decide +kernel
theorem dX3_isFull_10 : decode cX3_isFull 10 = .ok (.iconst 1, 1) := by decide +kernel
theorem dX3_isFull_11 : decode cX3_isFull 11 = .ok (.goto 4, 3) := by decide +kernel
theorem dX3_isFull_14 : decode cX3_isFull 14 = .ok (.iconst 0, 1) := by decide +kernel
theorem dX3_isFull_15 : decode cX3_isFull 15 = .ok (.ireturn, 1) := by decide +kernel
def kX3_isFull : Nat → WOp := cN 7 (cN 1 (cN 0 (cL 0 (o_aload 1 0)) (cL 1 (o_getf 4 2 0))) (cN 4 (cL 4 (o_push 7 150)) (cL 7 (o_icmp_lt 14 10)))) (cN 11 (cN 10 (cL 10 (o_push 11 1)) (cL 11 (o_goto 15))) (cN 14 (cL 14 (o_push 15 0)) (cL 15 (o_zret))))
theorem sX3_isFull : ∀ pc, Snd tX3_isFull G1 pc (kX3_isFull pc) := s_N (s_N (s_N (s_L (s_aload_n dX3_isFull_0 rfl)) (s_L (s_getf ok_2 (k := 0) (by decide) dX3_isFull_1 qw_280))) (s_N (s_L (s_sipush dX3_isFull_4 (by decide +kernel))) (s_L (s_o_icmp_lt dX3_isFull_7 (by decide))))) (s_N (s_N (s_L (s_iconst dX3_isFull_10 (by decide +kernel))) (s_L (s_o_goto dX3_isFull_11 (by decide)))) (s_N (s_L (s_iconst dX3_isFull_14 (by decide +kernel))) (s_L (s_zret rfl dX3_isFull_15))))
/-! PlateArm$CommandText.append -/
theorem dX3_append_0 : decode cX3_append 0 = .ok (.aload_n 0, 1) := by decide +kernel
theorem dX3_append_1 : decode cX3_append 1 = .ok (.invokevirtual 19, 3) := by decide +kernel
theorem dX3_append_4 : decode cX3_append 4 = .ok (.ifCond .ne 24, 3) := by decide +kernel
theorem dX3_append_7 : decode cX3_append 7 = .ok (.aload_n 0, 1) := by decide +kernel
theorem dX3_append_8 : decode cX3_append 8 = .ok (.getfield 11, 3) := by decide +kernel
theorem dX3_append_11 : decode cX3_append 11 = .ok (.aload_n 0, 1) := by decide +kernel
theorem dX3_append_12 : decode cX3_append 12 = .ok (.getfield 15, 3) := by decide +kernel
theorem dX3_append_15 : decode cX3_append 15 = .ok (.iload_n 1, 1) := by decide +kernel
theorem dX3_append_16 : decode cX3_append 16 = .ok (.i2b, 1) := by decide +kernel
theorem dX3_append_17 : decode cX3_append 17 = .ok (.bastore, 1) := by decide +kernel
theorem dX3_append_18 : decode cX3_append 18 = .ok (.aload_n 0, 1) := by decide +kernel
theorem dX3_append_19 : decode cX3_append 19 = .ok (.dup, 1) := by decide +kernel
theorem dX3_append_20 : decode cX3_append 20 = .ok (.getfield 15, 3) := by decide +kernel
theorem dX3_append_23 : decode cX3_append 23 = .ok (.iconst 1, 1) := by decide +kernel
theorem dX3_append_24 : decode cX3_append 24 = .ok (.iadd, 1) := by decide +kernel
theorem dX3_append_25 : decode cX3_append 25 = .ok (.putfield 15, 3) := by decide +kernel
theorem dX3_append_28 : decode cX3_append 28 = .ok (.aload_n 0, 1) := by decide +kernel
theorem dX3_append_29 : decode cX3_append 29 = .ok (.getfield 15, 3) := by decide +kernel
theorem dX3_append_32 : decode cX3_append 32 = .ok (.ireturn, 1) := by decide +kernel
theorem cc_X3_append_X3_isFull : CallC tX3_append tX3_isFull 0 := ⟨by decide +kernel, by decide +kernel, by decide +kernel, by decide, by decide, qw_76, qw_953⟩
def kX3_append : Nat → WOp := cN 16 (cN 7 (cN 1 (cN 0 (cL 0 (o_aload 1 0)) (cL 1 (o_callV 4 2 0 tX3_isFull 0 0))) (cN 4 (cL 4 (o_if_ne 28 7)) (cL 7 (o_aload 8 0)))) (cN 11 (cN 8 (cL 8 (o_getf 11 2 1)) (cL 11 (o_aload 12 0))) (cN 12 (cL 12 (o_getf 15 2 0)) (cN 15 (cL 15 (o_iload 16 1)) (cL 16 (o_i2b 17)))))) (cN 23 (cN 18 (cN 17 (cL 17 (o_bast 18)) (cL 18 (o_aload 19 0))) (cN 19 (cL 19 (o_dup 20)) (cN 20 (cL 20 (o_getf 23 2 0)) (cL 23 (o_push 24 1))))) (cN 25 (cN 24 (cL 24 (o_iadd 25)) (cL 25 (o_puti 28 2 0))) (cN 28 (cL 28 (o_aload 29 0)) (cN 29 (cL 29 (o_getf 32 2 0)) (cL 32 (o_iret))))))
theorem sX3_append : ∀ pc, Snd tX3_append G1 pc (kX3_append pc) := s_N (s_N (s_N (s_N (s_L (s_aload_n dX3_append_0 rfl)) (s_L (s_callV (d' := tX3_isFull) (mc := 0) (ms := 0) ok_2 cc_X3_append_X3_isFull qw_958 qw_951 qw_952 dX3_append_1))) (s_N (s_L (s_o_if_ne dX3_append_4 (by decide))) (s_L (s_aload_n dX3_append_7 rfl)))) (s_N (s_N (s_L (s_getf ok_2 (k := 1) (by decide) dX3_append_8 qw_283)) (s_L (s_aload_n dX3_append_11 rfl))) (s_N (s_L (s_getf ok_2 (k := 0) (by decide) dX3_append_12 qw_280)) (s_N (s_L (s_iload_n dX3_append_15 rfl)) (s_L (s_o_i2b dX3_append_16)))))) (s_N (s_N (s_N (s_L (s_bast dX3_append_17)) (s_L (s_aload_n dX3_append_18 rfl))) (s_N (s_L (s_o_dup dX3_append_19)) (s_N (s_L (s_getf ok_2 (k := 0) (by decide) dX3_append_20 qw_280)) (s_L (s_iconst dX3_append_23 (by decide +kernel)))))) (s_N (s_N (s_L (s_o_iadd dX3_append_24)) (s_L (s_puti ok_2 (k := 0) (by decide) rfl (Or.inl rfl) dX3_append_25 qw_280))) (s_N (s_L (s_aload_n dX3_append_28 rfl)) (s_N (s_L (s_getf ok_2 (k := 0) (by decide) dX3_append_29 qw_280)) (s_L (s_iret rfl dX3_append_32))))))
/-! PlateArm$CommandText.byteAt -/
theorem dX3_byteAt_0 : decode cX3_byteAt 0 = .ok (.iload_n 1, 1) := by decide +kernel
theorem dX3_byteAt_1 : decode cX3_byteAt 1 = .ok (.ifCond .lt 20, 3) := by decide +kernel
theorem dX3_byteAt_4 : decode cX3_byteAt 4 = .ok (.iload_n 1, 1) := by decide +kernel
theorem dX3_byteAt_5 : decode cX3_byteAt 5 = .ok (.aload_n 0, 1) := by decide +kernel
theorem dX3_byteAt_6 : decode cX3_byteAt 6 = .ok (.getfield 15, 3) := by decide +kernel
theorem dX3_byteAt_9 : decode cX3_byteAt 9 = .ok (.if_icmp .ge 12, 3) := by decide +kernel
theorem dX3_byteAt_12 : decode cX3_byteAt 12 = .ok (.aload_n 0, 1) := by decide +kernel
theorem dX3_byteAt_13 : decode cX3_byteAt 13 = .ok (.getfield 11, 3) := by decide +kernel
theorem dX3_byteAt_16 : decode cX3_byteAt 16 = .ok (.iload_n 1, 1) := by decide +kernel
theorem dX3_byteAt_17 : decode cX3_byteAt 17 = .ok (.baload, 1) := by decide +kernel
theorem dX3_byteAt_18 : decode cX3_byteAt 18 = .ok (.goto 4, 3) := by decide +kernel
theorem dX3_byteAt_21 : decode cX3_byteAt 21 = .ok (.iconst (-1), 1) := by decide +kernel
theorem dX3_byteAt_22 : decode cX3_byteAt 22 = .ok (.ireturn, 1) := by decide +kernel
def kX3_byteAt : Nat → WOp := cN 9 (cN 4 (cN 0 (cL 0 (o_iload 1 1)) (cN 1 (cL 1 (o_if_lt 21 4)) (cL 4 (o_iload 5 1)))) (cN 5 (cL 5 (o_aload 6 0)) (cN 6 (cL 6 (o_getf 9 2 0)) (cL 9 (o_icmp_ge 21 12))))) (cN 16 (cN 12 (cL 12 (o_aload 13 0)) (cN 13 (cL 13 (o_getf 16 2 1)) (cL 16 (o_iload 17 1)))) (cN 18 (cN 17 (cL 17 (o_bald 18)) (cL 18 (o_goto 22))) (cN 21 (cL 21 (o_push 22 (-1))) (cL 22 (o_iret)))))
theorem sX3_byteAt : ∀ pc, Snd tX3_byteAt G1 pc (kX3_byteAt pc) := s_N (s_N (s_N (s_L (s_iload_n dX3_byteAt_0 rfl)) (s_N (s_L (s_o_if_lt dX3_byteAt_1 (by decide))) (s_L (s_iload_n dX3_byteAt_4 rfl)))) (s_N (s_L (s_aload_n dX3_byteAt_5 rfl)) (s_N (s_L (s_getf ok_2 (k := 0) (by decide) dX3_byteAt_6 qw_280)) (s_L (s_o_icmp_ge dX3_byteAt_9 (by decide)))))) (s_N (s_N (s_L (s_aload_n dX3_byteAt_12 rfl)) (s_N (s_L (s_getf ok_2 (k := 1) (by decide) dX3_byteAt_13 qw_283)) (s_L (s_iload_n dX3_byteAt_16 rfl)))) (s_N (s_N (s_L (s_bald dX3_byteAt_17)) (s_L (s_o_goto dX3_byteAt_18 (by decide)))) (s_N (s_L (s_iconst dX3_byteAt_21 (by decide +kernel))) (s_L (s_iret rfl dX3_byteAt_22)))))
/-! PlateArm$CommandText.holds -/
theorem dX3_holds_0 : decode cX3_holds 0 = .ok (.iload_n 3, 1) := by decide +kernel
theorem dX3_holds_1 : decode cX3_holds 1 = .ok (.iload_n 2, 1) := by decide +kernel
theorem dX3_holds_2 : decode cX3_holds 2 = .ok (.isub, 1) := by decide +kernel
theorem dX3_holds_3 : decode cX3_holds 3 = .ok (.aload_n 1, 1) := by decide +kernel
theorem dX3_holds_4 : decode cX3_holds 4 = .ok (.invokevirtual 23, 3) := by decide +kernel
theorem dX3_holds_7 : decode cX3_holds 7 = .ok (.if_icmp .eq 5, 3) := by decide +kernel
theorem dX3_holds_10 : decode cX3_holds 10 = .ok (.iconst 0, 1) := by decide +kernel
theorem dX3_holds_11 : decode cX3_holds 11 = .ok (.ireturn, 1) := by decide +kernel
theorem dX3_holds_12 : decode cX3_holds 12 = .ok (.iconst 0, 1) := by decide +kernel
theorem dX3_holds_13 : decode cX3_holds 13 = .ok (.istore 4, 2) := by decide +kernel
theorem dX3_holds_15 : decode cX3_holds 15 = .ok (.iload 4, 2) := by decide +kernel
theorem dX3_holds_17 : decode cX3_holds 17 = .ok (.aload_n 1, 1) := by decide +kernel
theorem dX3_holds_18 : decode cX3_holds 18 = .ok (.invokevirtual 23, 3) := by decide +kernel
theorem dX3_holds_21 : decode cX3_holds 21 = .ok (.if_icmp .ge 28, 3) := by decide +kernel
theorem dX3_holds_24 : decode cX3_holds 24 = .ok (.aload_n 0, 1) := by decide +kernel
theorem dX3_holds_25 : decode cX3_holds 25 = .ok (.iload_n 2, 1) := by decide +kernel
theorem dX3_holds_26 : decode cX3_holds 26 = .ok (.iload 4, 2) := by decide +kernel
theorem dX3_holds_28 : decode cX3_holds 28 = .ok (.iadd, 1) := by decide +kernel
theorem dX3_holds_29 : decode cX3_holds 29 = .ok (.invokevirtual 28, 3) := by decide +kernel
theorem dX3_holds_32 : decode cX3_holds 32 = .ok (.aload_n 1, 1) := by decide +kernel
theorem dX3_holds_33 : decode cX3_holds 33 = .ok (.iload 4, 2) := by decide +kernel
theorem dX3_holds_35 : decode cX3_holds 35 = .ok (.invokevirtual 32, 3) := by decide +kernel
theorem dX3_holds_38 : decode cX3_holds 38 = .ok (.if_icmp .eq 5, 3) := by decide +kernel
theorem dX3_holds_41 : decode cX3_holds 41 = .ok (.iconst 0, 1) := by decide +kernel
theorem dX3_holds_42 : decode cX3_holds 42 = .ok (.ireturn, 1) := by decide +kernel
theorem dX3_holds_43 : decode cX3_holds 43 = .ok (.iinc 4 1, 3) := by decide +kernel
theorem dX3_holds_46 : decode cX3_holds 46 = .ok (.goto (-31), 3) := by decide +kernel
theorem dX3_holds_49 : decode cX3_holds 49 = .ok (.iconst 1, 1) := by decide +kernel
theorem dX3_holds_50 : decode cX3_holds 50 = .ok (.ireturn, 1) := by decide +kernel
theorem cc_X3_holds_J0_length_8abf5 : CallC tX3_holds tJ0_length_8abf5 0 := ⟨by decide +kernel, by decide +kernel, by decide +kernel, by decide, by decide, qw_90, qw_513⟩
theorem cc_X3_holds_X3_byteAt : CallC tX3_holds tX3_byteAt 1 := ⟨by decide +kernel, by decide +kernel, by decide +kernel, by decide, by decide, qw_76, qw_489⟩
theorem cc_X3_holds_J0_charAt_5068e : CallC tX3_holds tJ0_charAt_5068e 1 := ⟨by decide +kernel, by decide +kernel, by decide +kernel, by decide, by decide, qw_90, qw_524⟩
def kX3_holds : Nat → WOp := cN 21 (cN 10 (cN 2 (cN 0 (cL 0 (o_iload 1 3)) (cN 1 (cL 1 (o_iload 2 2)) (cL 2 (o_isub 3)))) (cN 4 (cN 3 (cL 3 (o_aload 4 1)) (cL 4 (o_callXV 7 6 12 0 tJ0_length_8abf5))) (cN 7 (cL 7 (o_icmp_eq 12 10)) (cL 10 (o_push 11 0))))) (cN 13 (cN 11 (cL 11 (o_zret)) (cN 12 (cL 12 (o_push 13 0)) (cL 13 (o_istore 15 4)))) (cN 17 (cN 15 (cL 15 (o_iload 17 4)) (cL 17 (o_aload 18 1))) (cN 18 (cL 18 (o_callXV 21 6 12 0 tJ0_length_8abf5)) (cL 21 (o_icmp_ge 49 24)))))) (cN 33 (cN 26 (cN 24 (cL 24 (o_aload 25 0)) (cN 25 (cL 25 (o_iload 26 2)) (cL 26 (o_iload 28 4)))) (cN 29 (cN 28 (cL 28 (o_iadd 29)) (cL 29 (o_callV 32 2 1 tX3_byteAt 0 0))) (cN 32 (cL 32 (o_aload 33 1)) (cL 33 (o_iload 35 4))))) (cN 42 (cN 38 (cN 35 (cL 35 (o_callXV 38 6 12 1 tJ0_charAt_5068e)) (cL 38 (o_icmp_eq 43 41))) (cN 41 (cL 41 (o_push 42 0)) (cL 42 (o_zret)))) (cN 46 (cN 43 (cL 43 (o_iinc 46 4 1)) (cL 46 (o_goto 15))) (cN 49 (cL 49 (o_push 50 1)) (cL 50 (o_zret))))))
theorem sX3_holds : ∀ pc, Snd tX3_holds G1 pc (kX3_holds pc) := s_N (s_N (s_N (s_N (s_L (s_iload_n dX3_holds_0 rfl)) (s_N (s_L (s_iload_n dX3_holds_1 rfl)) (s_L (s_o_isub dX3_holds_2)))) (s_N (s_N (s_L (s_aload_n dX3_holds_3 rfl)) (s_L (s_callXV (fun k h1 h2 => by rcases (show k = 6 ∨ k = 7 ∨ k = 8 ∨ k = 9 ∨ k = 10 ∨ k = 11 by omega) with rfl | rfl | rfl | rfl | rfl | rfl <;> simp [EO, tJ0_length_8abf5, yJ0_length_8abf5, RJ0]) cc_X3_holds_J0_length_8abf5 qw_510 qw_511 qw_512 dX3_holds_4))) (s_N (s_L (s_o_icmp_eq dX3_holds_7 (by decide))) (s_L (s_iconst dX3_holds_10 (by decide +kernel)))))) (s_N (s_N (s_L (s_zret rfl dX3_holds_11)) (s_N (s_L (s_iconst dX3_holds_12 (by decide +kernel))) (s_L (s_istore dX3_holds_13 (by decide))))) (s_N (s_N (s_L (s_iload dX3_holds_15)) (s_L (s_aload_n dX3_holds_17 rfl))) (s_N (s_L (s_callXV (fun k h1 h2 => by rcases (show k = 6 ∨ k = 7 ∨ k = 8 ∨ k = 9 ∨ k = 10 ∨ k = 11 by omega) with rfl | rfl | rfl | rfl | rfl | rfl <;> simp [EO, tJ0_length_8abf5, yJ0_length_8abf5, RJ0]) cc_X3_holds_J0_length_8abf5 qw_510 qw_511 qw_512 dX3_holds_18)) (s_L (s_o_icmp_ge dX3_holds_21 (by decide))))))) (s_N (s_N (s_N (s_L (s_aload_n dX3_holds_24 rfl)) (s_N (s_L (s_iload_n dX3_holds_25 rfl)) (s_L (s_iload dX3_holds_26)))) (s_N (s_N (s_L (s_o_iadd dX3_holds_28)) (s_L (s_callV (d' := tX3_byteAt) (mc := 0) (ms := 0) ok_2 cc_X3_holds_X3_byteAt qw_520 qw_487 qw_488 dX3_holds_29))) (s_N (s_L (s_aload_n dX3_holds_32 rfl)) (s_L (s_iload dX3_holds_33))))) (s_N (s_N (s_N (s_L (s_callXV (fun k h1 h2 => by rcases (show k = 6 ∨ k = 7 ∨ k = 8 ∨ k = 9 ∨ k = 10 ∨ k = 11 by omega) with rfl | rfl | rfl | rfl | rfl | rfl <;> simp [EO, tJ0_charAt_5068e, yJ0_charAt_5068e, RJ0]) cc_X3_holds_J0_charAt_5068e qw_521 qw_522 qw_523 dX3_holds_35)) (s_L (s_o_icmp_eq dX3_holds_38 (by decide)))) (s_N (s_L (s_iconst dX3_holds_41 (by decide +kernel))) (s_L (s_zret rfl dX3_holds_42)))) (s_N (s_N (s_L (s_iinc (v := 1) dX3_holds_43 (by decide +kernel) (by decide))) (s_L (s_o_goto dX3_holds_46 (by decide)))) (s_N (s_L (s_iconst dX3_holds_49 (by decide +kernel))) (s_L (s_zret rfl dX3_holds_50))))))
