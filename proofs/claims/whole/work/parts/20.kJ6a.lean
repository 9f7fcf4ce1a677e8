/-! java/lang/Integer.compare -/
theorem dJ6_compare_7cf53_0 : decode cJ6_compare_7cf53 0 = .ok (.iload_n 0, 1) := by decide +kernel
theorem dJ6_compare_7cf53_1 : decode cJ6_compare_7cf53 1 = .ok (.iload_n 1, 1) := by decide +kernel
theorem dJ6_compare_7cf53_2 : decode cJ6_compare_7cf53 2 = .ok (.if_icmp .ge 7, 3) := by decide +kernel
theorem dJ6_compare_7cf53_5 : decode cJ6_compare_7cf53 5 = .ok (.iconst (-1), 1) := by decide +kernel
theorem dJ6_compare_7cf53_6 : decode cJ6_compare_7cf53 6 = .ok (.goto 13, 3) := by decide +kernel
theorem dJ6_compare_7cf53_9 : decode cJ6_compare_7cf53 9 = .ok (.iload_n 0, 1) := by decide +kernel
theorem dJ6_compare_7cf53_10 : decode cJ6_compare_7cf53 10 = .ok (.iload_n 1, 1) := by decide +kernel
theorem dJ6_compare_7cf53_11 : decode cJ6_compare_7cf53 11 = .ok (.if_icmp .ne 7, 3) := by decide +kernel
theorem dJ6_compare_7cf53_14 : decode cJ6_compare_7cf53 14 = .ok (.iconst 0, 1) := by decide +kernel
theorem dJ6_compare_7cf53_15 : decode cJ6_compare_7cf53 15 = .ok (.goto 4, 3) := by decide +kernel
theorem dJ6_compare_7cf53_18 : decode cJ6_compare_7cf53 18 = .ok (.iconst 1, 1) := by decide +kernel
theorem dJ6_compare_7cf53_19 : decode cJ6_compare_7cf53 19 = .ok (.ireturn, 1) := by decide +kernel
def kJ6_compare_7cf53 : Nat → WOp := cN 9 (cN 2 (cN 0 (cL 0 (o_iload 1 0)) (cN 1 (cL 1 (o_iload 2 1)) (cL 2 (o_icmp_ge 9 5)))) (cN 5 (cL 5 (o_push 6 (-1))) (cN 6 (cL 6 (o_goto 19)) (cL 9 (o_iload 10 0))))) (cN 14 (cN 10 (cL 10 (o_iload 11 1)) (cN 11 (cL 11 (o_icmp_ne 18 14)) (cL 14 (o_push 15 0)))) (cN 15 (cL 15 (o_goto 19)) (cN 18 (cL 18 (o_push 19 1)) (cL 19 (o_iret)))))
theorem sJ6_compare_7cf53 : ∀ pc, Snd tJ6_compare_7cf53 G1 pc (kJ6_compare_7cf53 pc) := s_N (s_N (s_N (s_L (s_iload_n dJ6_compare_7cf53_0 rfl)) (s_N (s_L (s_iload_n dJ6_compare_7cf53_1 rfl)) (s_L (s_o_icmp_ge dJ6_compare_7cf53_2 (by decide))))) (s_N (s_L (s_iconst dJ6_compare_7cf53_5 (by decide +kernel))) (s_N (s_L (s_o_goto dJ6_compare_7cf53_6 (by decide))) (s_L (s_iload_n dJ6_compare_7cf53_9 rfl))))) (s_N (s_N (s_L (s_iload_n dJ6_compare_7cf53_10 rfl)) (s_N (s_L (s_o_icmp_ne dJ6_compare_7cf53_11 (by decide))) (s_L (s_iconst dJ6_compare_7cf53_14 (by decide +kernel))))) (s_N (s_L (s_o_goto dJ6_compare_7cf53_15 (by decide))) (s_N (s_L (s_iconst dJ6_compare_7cf53_18 (by decide +kernel))) (s_L (s_iret rfl dJ6_compare_7cf53_19)))))
