/-! java/lang/StringLatin1.charAt -/
theorem dJ1_charAt_3b067_0 : decode cJ1_charAt_3b067 0 = .ok (.iload_n 1, 1) := by decide +kernel
theorem dJ1_charAt_3b067_1 : decode cJ1_charAt_3b067 1 = .ok (.aload_n 0, 1) := by decide +kernel
theorem dJ1_charAt_3b067_2 : decode cJ1_charAt_3b067 2 = .ok (.arraylength, 1) := by decide +kernel
theorem dJ1_charAt_3b067_3 : decode cJ1_charAt_3b067 3 = .ok (.invokestatic 9, 3) := by decide +kernel
theorem dJ1_charAt_3b067_6 : decode cJ1_charAt_3b067 6 = .ok (.aload_n 0, 1) := by decide +kernel
theorem dJ1_charAt_3b067_7 : decode cJ1_charAt_3b067 7 = .ok (.iload_n 1, 1) := by decide +kernel
theorem dJ1_charAt_3b067_8 : decode cJ1_charAt_3b067 8 = .ok (.baload, 1) := by decide +kernel
theorem dJ1_charAt_3b067_9 : decode cJ1_charAt_3b067 9 = .ok (.sipush 255, 3) := by decide +kernel
theorem dJ1_charAt_3b067_12 : decode cJ1_charAt_3b067 12 = .ok (.iand, 1) := by decide +kernel
theorem dJ1_charAt_3b067_13 : decode cJ1_charAt_3b067 13 = .ok (.i2c, 1) := by decide +kernel
theorem dJ1_charAt_3b067_14 : decode cJ1_charAt_3b067 14 = .ok (.ireturn, 1) := by decide +kernel
theorem cc_J1_charAt_3b067_J0_checkIndex_df160 : CallC tJ1_charAt_3b067 tJ0_checkIndex_df160 2 := ⟨by decide +kernel, by decide +kernel, by decide +kernel, by decide, by decide, qw_90, qw_534⟩
def kJ1_charAt_3b067 : Nat → WOp := cN 6 (cN 1 (cN 0 (cL 0 (o_iload 1 1)) (cL 1 (o_aload 2 0))) (cN 2 (cL 2 (o_xlen 3 12 [0, 5, 4, 6, 3, 5])) (cN 3 (cL 3 (o_callS 6 2 tJ0_checkIndex_df160 0 0)) (cL 6 (o_aload 7 0))))) (cN 9 (cN 7 (cL 7 (o_iload 8 1)) (cN 8 (cL 8 (o_xbald 9 12 strBytes)) (cL 9 (o_push 12 255)))) (cN 12 (cL 12 (o_iand 13)) (cN 13 (cL 13 (o_i2c 14)) (cL 14 (o_nret (fun x => x.toUInt32.toUInt16.toUInt32.toInt32))))))
theorem sJ1_charAt_3b067 : ∀ pc, Snd tJ1_charAt_3b067 G1 pc (kJ1_charAt_3b067 pc) := s_N (s_N (s_N (s_L (s_iload_n dJ1_charAt_3b067_0 rfl)) (s_L (s_aload_n dJ1_charAt_3b067_1 rfl))) (s_N (s_L (s_xlen (lo := 12) xl_strs dJ1_charAt_3b067_2)) (s_N (s_L (s_callS (d' := tJ0_checkIndex_df160) (mc := 0) (ms := 0) cc_J1_charAt_3b067_J0_checkIndex_df160 qw_532 qw_533 dJ1_charAt_3b067_3)) (s_L (s_aload_n dJ1_charAt_3b067_6 rfl))))) (s_N (s_N (s_L (s_iload_n dJ1_charAt_3b067_7 rfl)) (s_N (s_L (s_xbald (lo := 12) xl_bytes dJ1_charAt_3b067_8)) (s_L (s_sipush dJ1_charAt_3b067_9 (by decide +kernel))))) (s_N (s_L (s_o_iand dJ1_charAt_3b067_12)) (s_N (s_L (s_o_i2c dJ1_charAt_3b067_13)) (s_L (s_nret rfl (fun _ => rfl) dJ1_charAt_3b067_14)))))
