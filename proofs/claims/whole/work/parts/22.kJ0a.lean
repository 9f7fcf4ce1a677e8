/-! java/lang/String.coder -/
theorem dJ0_coder_7d493_0 : decode cJ0_coder_7d493 0 = .ok (.getstatic 38, 3) := by decide +kernel
theorem dJ0_coder_7d493_3 : decode cJ0_coder_7d493 3 = .ok (.ifCond .eq 10, 3) := by decide +kernel
theorem dJ0_coder_7d493_6 : decode cJ0_coder_7d493 6 = .ok (.aload_n 0, 1) := by decide +kernel
theorem dJ0_coder_7d493_7 : decode cJ0_coder_7d493 7 = .ok (.getfield 15, 3) := by decide +kernel
theorem dJ0_coder_7d493_10 : decode cJ0_coder_7d493 10 = .ok (.goto 4, 3) := by decide +kernel
theorem dJ0_coder_7d493_13 : decode cJ0_coder_7d493 13 = .ok (.iconst 1, 1) := by decide +kernel
theorem dJ0_coder_7d493_14 : decode cJ0_coder_7d493 14 = .ok (.ireturn, 1) := by decide +kernel
def kJ0_coder_7d493 : Nat → WOp := cN 6 (cN 0 (cL 0 (o_gets 3 (.int 1))) (cN 3 (cL 3 (o_if_eq 13 6)) (cL 6 (o_aload 7 0)))) (cN 10 (cN 7 (cL 7 (o_getx 10 6 [.int 0, .int 0, .int 0, .int 0, .int 0, .int 0])) (cL 10 (o_goto 14))) (cN 13 (cL 13 (o_push 14 1)) (cL 14 (o_nret (fun x => x.toInt8.toInt32)))))
theorem sJ0_coder_7d493 : ∀ pc, Snd tJ0_coder_7d493 G1 pc (kJ0_coder_7d493 pc) := s_N (s_N (s_L (s_gets (C := "java/lang/String") (nm := "COMPACT_STRINGS") (dsc := "Z") (by simp [EZ]) dJ0_coder_7d493_0 qw_518)) (s_N (s_L (s_o_if_eq dJ0_coder_7d493_3 (by decide))) (s_L (s_aload_n dJ0_coder_7d493_6 rfl)))) (s_N (s_N (s_L (s_getx (lo := 6) xg_coder dJ0_coder_7d493_7 qw_1280)) (s_L (s_o_goto dJ0_coder_7d493_10 (by decide)))) (s_N (s_L (s_iconst dJ0_coder_7d493_13 (by decide +kernel))) (s_L (s_nret rfl (fun _ => rfl) dJ0_coder_7d493_14))))
/-! java/lang/String.isLatin1 -/
theorem dJ0_isLatin1_aae02_0 : decode cJ0_isLatin1_aae02 0 = .ok (.getstatic 38, 3) := by decide +kernel
theorem dJ0_isLatin1_aae02_3 : decode cJ0_isLatin1_aae02 3 = .ok (.ifCond .eq 14, 3) := by decide +kernel
theorem dJ0_isLatin1_aae02_6 : decode cJ0_isLatin1_aae02 6 = .ok (.aload_n 0, 1) := by decide +kernel
theorem dJ0_isLatin1_aae02_7 : decode cJ0_isLatin1_aae02 7 = .ok (.getfield 15, 3) := by decide +kernel
theorem dJ0_isLatin1_aae02_10 : decode cJ0_isLatin1_aae02 10 = .ok (.ifCond .ne 7, 3) := by decide +kernel
theorem dJ0_isLatin1_aae02_13 : decode cJ0_isLatin1_aae02 13 = .ok (.iconst 1, 1) := by decide +kernel
theorem dJ0_isLatin1_aae02_14 : decode cJ0_isLatin1_aae02 14 = .ok (.goto 4, 3) := by decide +kernel
theorem dJ0_isLatin1_aae02_17 : decode cJ0_isLatin1_aae02 17 = .ok (.iconst 0, 1) := by decide +kernel
theorem dJ0_isLatin1_aae02_18 : decode cJ0_isLatin1_aae02 18 = .ok (.ireturn, 1) := by decide +kernel
def kJ0_isLatin1_aae02 : Nat → WOp := cN 7 (cN 3 (cN 0 (cL 0 (o_gets 3 (.int 1))) (cL 3 (o_if_eq 17 6))) (cN 6 (cL 6 (o_aload 7 0)) (cL 7 (o_getx 10 6 [.int 0, .int 0, .int 0, .int 0, .int 0, .int 0])))) (cN 13 (cN 10 (cL 10 (o_if_ne 17 13)) (cL 13 (o_push 14 1))) (cN 14 (cL 14 (o_goto 18)) (cN 17 (cL 17 (o_push 18 0)) (cL 18 (o_zret)))))
theorem sJ0_isLatin1_aae02 : ∀ pc, Snd tJ0_isLatin1_aae02 G1 pc (kJ0_isLatin1_aae02 pc) := s_N (s_N (s_N (s_L (s_gets (C := "java/lang/String") (nm := "COMPACT_STRINGS") (dsc := "Z") (by simp [EZ]) dJ0_isLatin1_aae02_0 qw_518)) (s_L (s_o_if_eq dJ0_isLatin1_aae02_3 (by decide)))) (s_N (s_L (s_aload_n dJ0_isLatin1_aae02_6 rfl)) (s_L (s_getx (lo := 6) xg_coder dJ0_isLatin1_aae02_7 qw_1280)))) (s_N (s_N (s_L (s_o_if_ne dJ0_isLatin1_aae02_10 (by decide))) (s_L (s_iconst dJ0_isLatin1_aae02_13 (by decide +kernel)))) (s_N (s_L (s_o_goto dJ0_isLatin1_aae02_14 (by decide))) (s_N (s_L (s_iconst dJ0_isLatin1_aae02_17 (by decide +kernel))) (s_L (s_zret rfl dJ0_isLatin1_aae02_18)))))
/-! java/lang/String.checkIndex -/
theorem dJ0_checkIndex_df160_0 : decode cJ0_checkIndex_df160 0 = .ok (.iload_n 0, 1) := by decide +kernel
theorem dJ0_checkIndex_df160_1 : decode cJ0_checkIndex_df160 1 = .ok (.iload_n 1, 1) := by decide +kernel
theorem dJ0_checkIndex_df160_2 : decode cJ0_checkIndex_df160 2 = .ok (.getstatic 1053, 3) := by decide +kernel
theorem dJ0_checkIndex_df160_5 : decode cJ0_checkIndex_df160 5 = .ok (.invokestatic 1059, 3) := by decide +kernel
theorem dJ0_checkIndex_df160_8 : decode cJ0_checkIndex_df160 8 = .ok (.pop, 1) := by decide +kernel
theorem dJ0_checkIndex_df160_9 : decode cJ0_checkIndex_df160 9 = .ok (.return_, 1) := by decide +kernel
theorem cc_J0_checkIndex_df160_J3_checkIndex_8e157 : CallC tJ0_checkIndex_df160 tJ3_checkIndex_8e157 3 := ⟨by decide +kernel, by decide +kernel, by decide +kernel, by decide, by decide, qw_92, qw_539⟩
def kJ0_checkIndex_df160 : Nat → WOp := cN 2 (cN 0 (cL 0 (o_iload 1 0)) (cN 1 (cL 1 (o_iload 2 1)) (cL 2 (o_gets2 5)))) (cN 5 (cL 5 (o_callS 8 3 tJ3_checkIndex_8e157 0 0)) (cN 8 (cL 8 (o_pop 9)) (cL 9 (o_vret))))
theorem sJ0_checkIndex_df160 : ∀ pc, Snd tJ0_checkIndex_df160 G1 pc (kJ0_checkIndex_df160 pc) := s_N (s_N (s_L (s_iload_n dJ0_checkIndex_df160_0 rfl)) (s_N (s_L (s_iload_n dJ0_checkIndex_df160_1 rfl)) (s_L (s_gets2 dJ0_checkIndex_df160_2 qw_535)))) (s_N (s_L (s_callS (d' := tJ3_checkIndex_8e157) (mc := 0) (ms := 0) cc_J0_checkIndex_df160_J3_checkIndex_8e157 qw_537 qw_538 dJ0_checkIndex_df160_5)) (s_N (s_L (s_o_pop dJ0_checkIndex_df160_8)) (s_L (s_vret rfl dJ0_checkIndex_df160_9))))
/-! java/lang/String.length -/
theorem dJ0_length_8abf5_0 : decode cJ0_length_8abf5 0 = .ok (.aload_n 0, 1) := by decide +kernel
theorem dJ0_length_8abf5_1 : decode cJ0_length_8abf5 1 = .ok (.getfield 9, 3) := by decide +kernel
theorem dJ0_length_8abf5_4 : decode cJ0_length_8abf5 4 = .ok (.arraylength, 1) := by decide +kernel
theorem dJ0_length_8abf5_5 : decode cJ0_length_8abf5 5 = .ok (.aload_n 0, 1) := by decide +kernel
theorem dJ0_length_8abf5_6 : decode cJ0_length_8abf5 6 = .ok (.invokevirtual 335, 3) := by decide +kernel
theorem dJ0_length_8abf5_9 : decode cJ0_length_8abf5 9 = .ok (.ishr, 1) := by decide +kernel
theorem dJ0_length_8abf5_10 : decode cJ0_length_8abf5 10 = .ok (.ireturn, 1) := by decide +kernel
theorem cc_J0_length_8abf5_J0_coder_7d493 : CallC tJ0_length_8abf5 tJ0_coder_7d493 0 := ⟨by decide +kernel, by decide +kernel, by decide +kernel, by decide, by decide, qw_90, qw_517⟩
def kJ0_length_8abf5 : Nat → WOp := cN 4 (cN 0 (cL 0 (o_aload 1 0)) (cN 1 (cL 1 (o_getx 4 6 [.float 12, .float 13, .float 14, .float 15, .float 16, .float 17])) (cL 4 (o_xlen 5 12 [0, 5, 4, 6, 3, 5])))) (cN 6 (cN 5 (cL 5 (o_aload 6 0)) (cL 6 (o_callXV 9 6 12 0 tJ0_coder_7d493))) (cN 9 (cL 9 (o_ishr 10)) (cL 10 (o_iret))))
theorem sJ0_length_8abf5 : ∀ pc, Snd tJ0_length_8abf5 G1 pc (kJ0_length_8abf5 pc) := s_N (s_N (s_L (s_aload_n dJ0_length_8abf5_0 rfl)) (s_N (s_L (s_getx (lo := 6) xg_value dJ0_length_8abf5_1 qw_1279)) (s_L (s_xlen (lo := 12) xl_strs dJ0_length_8abf5_4)))) (s_N (s_N (s_L (s_aload_n dJ0_length_8abf5_5 rfl)) (s_L (s_callXV (fun k h1 h2 => by rcases (show k = 6 ∨ k = 7 ∨ k = 8 ∨ k = 9 ∨ k = 10 ∨ k = 11 by omega) with rfl | rfl | rfl | rfl | rfl | rfl <;> simp [EO, tJ0_coder_7d493, yJ0_coder_7d493, RJ0]) cc_J0_length_8abf5_J0_coder_7d493 qw_514 qw_515 qw_516 dJ0_length_8abf5_6))) (s_N (s_L (s_o_ishr dJ0_length_8abf5_9)) (s_L (s_iret rfl dJ0_length_8abf5_10))))
/-! java/lang/String.charAt -/
theorem dJ0_charAt_5068e_0 : decode cJ0_charAt_5068e 0 = .ok (.aload_n 0, 1) := by decide +kernel
theorem dJ0_charAt_5068e_1 : decode cJ0_charAt_5068e 1 = .ok (.invokevirtual 492, 3) := by decide +kernel
theorem dJ0_charAt_5068e_4 : decode cJ0_charAt_5068e 4 = .ok (.ifCond .eq 12, 3) := by decide +kernel
theorem dJ0_charAt_5068e_7 : decode cJ0_charAt_5068e 7 = .ok (.aload_n 0, 1) := by decide +kernel
theorem dJ0_charAt_5068e_8 : decode cJ0_charAt_5068e 8 = .ok (.getfield 9, 3) := by decide +kernel
theorem dJ0_charAt_5068e_11 : decode cJ0_charAt_5068e 11 = .ok (.iload_n 1, 1) := by decide +kernel
theorem dJ0_charAt_5068e_12 : decode cJ0_charAt_5068e 12 = .ok (.invokestatic 495, 3) := by decide +kernel
theorem dJ0_charAt_5068e_15 : decode cJ0_charAt_5068e 15 = .ok (.ireturn, 1) := by decide +kernel
theorem dJ0_charAt_5068e_16 : decode cJ0_charAt_5068e 16 = .ok (.aload_n 0, 1) := by decide +kernel
theorem dJ0_charAt_5068e_17 : decode cJ0_charAt_5068e 17 = .ok (.getfield 9, 3) := by decide +kernel
theorem dJ0_charAt_5068e_20 : decode cJ0_charAt_5068e 20 = .ok (.iload_n 1, 1) := by decide +kernel
theorem dJ0_charAt_5068e_21 : decode cJ0_charAt_5068e 21 = .ok (.invokestatic 498, 3) := by decide +kernel
theorem dJ0_charAt_5068e_24 : decode cJ0_charAt_5068e 24 = .ok (.ireturn, 1) := by decide +kernel
theorem cc_J0_charAt_5068e_J0_isLatin1_aae02 : CallC tJ0_charAt_5068e tJ0_isLatin1_aae02 0 := ⟨by decide +kernel, by decide +kernel, by decide +kernel, by decide, by decide, qw_90, qw_528⟩
theorem cc_J0_charAt_5068e_J1_charAt_3b067 : CallC tJ0_charAt_5068e tJ1_charAt_3b067 2 := ⟨by decide +kernel, by decide +kernel, by decide +kernel, by decide, by decide, qw_91, qw_531⟩
def kJ0_charAt_5068e : Nat → WOp := cN 11 (cN 4 (cN 0 (cL 0 (o_aload 1 0)) (cN 1 (cL 1 (o_callXV 4 6 12 0 tJ0_isLatin1_aae02)) (cL 4 (o_if_eq 16 7)))) (cN 7 (cL 7 (o_aload 8 0)) (cN 8 (cL 8 (o_getx 11 6 [.float 12, .float 13, .float 14, .float 15, .float 16, .float 17])) (cL 11 (o_iload 12 1))))) (cN 16 (cN 12 (cL 12 (o_callS 15 2 tJ1_charAt_3b067 0 0)) (cN 15 (cL 15 (o_nret (fun x => x.toUInt32.toUInt16.toUInt32.toInt32))) (cL 16 (oBad)))) (cN 20 (cN 17 (cL 17 (oBad)) (cL 20 (oBad))) (cN 21 (cL 21 (oBad)) (cL 24 (oBad)))))
theorem sJ0_charAt_5068e : ∀ pc, Snd tJ0_charAt_5068e G1 pc (kJ0_charAt_5068e pc) := s_N (s_N (s_N (s_L (s_aload_n dJ0_charAt_5068e_0 rfl)) (s_N (s_L (s_callXV (fun k h1 h2 => by rcases (show k = 6 ∨ k = 7 ∨ k = 8 ∨ k = 9 ∨ k = 10 ∨ k = 11 by omega) with rfl | rfl | rfl | rfl | rfl | rfl <;> simp [EO, tJ0_isLatin1_aae02, yJ0_isLatin1_aae02, RJ0]) cc_J0_charAt_5068e_J0_isLatin1_aae02 qw_525 qw_526 qw_527 dJ0_charAt_5068e_1)) (s_L (s_o_if_eq dJ0_charAt_5068e_4 (by decide))))) (s_N (s_L (s_aload_n dJ0_charAt_5068e_7 rfl)) (s_N (s_L (s_getx (lo := 6) xg_value dJ0_charAt_5068e_8 qw_1279)) (s_L (s_iload_n dJ0_charAt_5068e_11 rfl))))) (s_N (s_N (s_L (s_callS (d' := tJ1_charAt_3b067) (mc := 0) (ms := 0) cc_J0_charAt_5068e_J1_charAt_3b067 qw_529 qw_530 dJ0_charAt_5068e_12)) (s_N (s_L (s_nret rfl (fun _ => rfl) dJ0_charAt_5068e_15)) (s_L (s_bad)))) (s_N (s_N (s_L (s_bad)) (s_L (s_bad))) (s_N (s_L (s_bad)) (s_L (s_bad)))))
