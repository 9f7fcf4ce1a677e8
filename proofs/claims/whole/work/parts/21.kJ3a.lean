/-! jdk/internal/util/Preconditions.checkIndex -/
theorem dJ3_checkIndex_8e157_0 : decode cJ3_checkIndex_8e157 0 = .ok (.iload_n 0, 1) := by decide +kernel
theorem dJ3_checkIndex_8e157_1 : decode cJ3_checkIndex_8e157 1 = .ok (.ifCond .lt 8, 3) := by decide +kernel
theorem dJ3_checkIndex_8e157_4 : decode cJ3_checkIndex_8e157 4 = .ok (.iload_n 0, 1) := by decide +kernel
theorem dJ3_checkIndex_8e157_5 : decode cJ3_checkIndex_8e157 5 = .ok (.iload_n 1, 1) := by decide +kernel
theorem dJ3_checkIndex_8e157_6 : decode cJ3_checkIndex_8e157 6 = .ok (.if_icmp .lt 10, 3) := by decide +kernel
theorem dJ3_checkIndex_8e157_9 : decode cJ3_checkIndex_8e157 9 = .ok (.aload_n 2, 1) := by decide +kernel
theorem dJ3_checkIndex_8e157_10 : decode cJ3_checkIndex_8e157 10 = .ok (.iload_n 0, 1) := by decide +kernel
theorem dJ3_checkIndex_8e157_11 : decode cJ3_checkIndex_8e157 11 = .ok (.iload_n 1, 1) := by decide +kernel
theorem dJ3_checkIndex_8e157_12 : decode cJ3_checkIndex_8e157 12 = .ok (.invokestatic 95, 3) := by decide +kernel
theorem dJ3_checkIndex_8e157_15 : decode cJ3_checkIndex_8e157 15 = .ok (.athrow, 1) := by decide +kernel
theorem dJ3_checkIndex_8e157_16 : decode cJ3_checkIndex_8e157 16 = .ok (.iload_n 0, 1) := by decide +kernel
theorem dJ3_checkIndex_8e157_17 : decode cJ3_checkIndex_8e157 17 = .ok (.ireturn, 1) := by decide +kernel
def kJ3_checkIndex_8e157 : Nat → WOp := cN 9 (cN 4 (cN 0 (cL 0 (o_iload 1 0)) (cN 1 (cL 1 (o_if_lt 9 4)) (cL 4 (o_iload 5 0)))) (cN 5 (cL 5 (o_iload 6 1)) (cN 6 (cL 6 (o_icmp_lt 16 9)) (cL 9 (oBad))))) (cN 12 (cN 10 (cL 10 (oBad)) (cN 11 (cL 11 (oBad)) (cL 12 (oBad)))) (cN 15 (cL 15 (oBad)) (cN 16 (cL 16 (o_iload 17 0)) (cL 17 (o_iret)))))
theorem sJ3_checkIndex_8e157 : ∀ pc, Snd tJ3_checkIndex_8e157 G1 pc (kJ3_checkIndex_8e157 pc) := s_N (s_N (s_N (s_L (s_iload_n dJ3_checkIndex_8e157_0 rfl)) (s_N (s_L (s_o_if_lt dJ3_checkIndex_8e157_1 (by decide))) (s_L (s_iload_n dJ3_checkIndex_8e157_4 rfl)))) (s_N (s_L (s_iload_n dJ3_checkIndex_8e157_5 rfl)) (s_N (s_L (s_o_icmp_lt dJ3_checkIndex_8e157_6 (by decide))) (s_L (s_bad))))) (s_N (s_N (s_L (s_bad)) (s_N (s_L (s_bad)) (s_L (s_bad)))) (s_N (s_L (s_bad)) (s_N (s_L (s_iload_n dJ3_checkIndex_8e157_16 rfl)) (s_L (s_iret rfl dJ3_checkIndex_8e157_17)))))
