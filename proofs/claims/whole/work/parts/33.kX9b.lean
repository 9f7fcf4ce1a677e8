/-! PlateArm.carryOutTicks -/
theorem dX9_carryOutTicks_0 : decode cX9_carryOutTicks 0 = .ok (.iload_n 1, 1) := by decide +kernel
theorem dX9_carryOutTicks_1 : decode cX9_carryOutTicks 1 = .ok (.invokestatic 105, 3) := by decide +kernel
theorem dX9_carryOutTicks_4 : decode cX9_carryOutTicks 4 = .ok (.ifCond .eq 11, 3) := by decide +kernel
theorem dX9_carryOutTicks_7 : decode cX9_carryOutTicks 7 = .ok (.aload_n 0, 1) := by decide +kernel
theorem dX9_carryOutTicks_8 : decode cX9_carryOutTicks 8 = .ok (.iload_n 1, 1) := by decide +kernel
theorem dX9_carryOutTicks_9 : decode cX9_carryOutTicks 9 = .ok (.invokevirtual 109, 3) := by decide +kernel
theorem dX9_carryOutTicks_12 : decode cX9_carryOutTicks 12 = .ok (.ifCond .ne 5, 3) := by decide +kernel
theorem dX9_carryOutTicks_15 : decode cX9_carryOutTicks 15 = .ok (.iconst 0, 1) := by decide +kernel
theorem dX9_carryOutTicks_16 : decode cX9_carryOutTicks 16 = .ok (.ireturn, 1) := by decide +kernel
theorem dX9_carryOutTicks_17 : decode cX9_carryOutTicks 17 = .ok (.aload_n 0, 1) := by decide +kernel
theorem dX9_carryOutTicks_18 : decode cX9_carryOutTicks 18 = .ok (.getfield 10, 3) := by decide +kernel
theorem dX9_carryOutTicks_21 : decode cX9_carryOutTicks 21 = .ok (.iload_n 1, 1) := by decide +kernel
theorem dX9_carryOutTicks_22 : decode cX9_carryOutTicks 22 = .ok (.invokevirtual 121, 3) := by decide +kernel
theorem dX9_carryOutTicks_25 : decode cX9_carryOutTicks 25 = .ok (.iconst 1, 1) := by decide +kernel
theorem dX9_carryOutTicks_26 : decode cX9_carryOutTicks 26 = .ok (.ireturn, 1) := by decide +kernel
theorem cc_X9_carryOutTicks_X9_ticksFit : CallC tX9_carryOutTicks tX9_ticksFit 1 := ⟨by decide +kernel, by decide +kernel, by decide +kernel, by decide, by decide, qw_70, qw_671⟩
theorem cc_X9_carryOutTicks_X9_timeIsLeft : CallC tX9_carryOutTicks tX9_timeIsLeft 1 := ⟨by decide +kernel, by decide +kernel, by decide +kernel, by decide, by decide, qw_70, qw_675⟩
theorem cc_X9_carryOutTicks_X6_passTicks : CallC tX9_carryOutTicks tX6_passTicks 1 := ⟨by decide +kernel, by decide +kernel, by decide +kernel, by decide, by decide, qw_71, qw_679⟩
def kX9_carryOutTicks : Nat → WOp := cN 12 (cN 4 (cN 0 (cL 0 (o_iload 1 1)) (cN 1 (cL 1 (o_callS 4 1 tX9_ticksFit 0 0)) (cL 4 (o_if_eq 15 7)))) (cN 8 (cN 7 (cL 7 (o_aload 8 0)) (cL 8 (o_iload 9 1))) (cN 9 (cL 9 (o_callV 12 7 1 tX9_timeIsLeft 0 0)) (cL 12 (o_if_ne 17 15))))) (cN 18 (cN 16 (cN 15 (cL 15 (o_push 16 0)) (cL 16 (o_zret))) (cN 17 (cL 17 (o_aload 18 0)) (cL 18 (o_getf 21 7 0)))) (cN 22 (cN 21 (cL 21 (o_iload 22 1)) (cL 22 (o_callV 25 5 1 tX6_passTicks 0 0))) (cN 25 (cL 25 (o_push 26 1)) (cL 26 (o_zret)))))
theorem sX9_carryOutTicks : ∀ pc, Snd tX9_carryOutTicks G1 pc (kX9_carryOutTicks pc) := s_N (s_N (s_N (s_L (s_iload_n dX9_carryOutTicks_0 rfl)) (s_N (s_L (s_callS (d' := tX9_ticksFit) (mc := 0) (ms := 0) cc_X9_carryOutTicks_X9_ticksFit qw_669 qw_670 dX9_carryOutTicks_1)) (s_L (s_o_if_eq dX9_carryOutTicks_4 (by decide))))) (s_N (s_N (s_L (s_aload_n dX9_carryOutTicks_7 rfl)) (s_L (s_iload_n dX9_carryOutTicks_8 rfl))) (s_N (s_L (s_callV (d' := tX9_timeIsLeft) (mc := 0) (ms := 0) ok_7 cc_X9_carryOutTicks_X9_timeIsLeft qw_672 qw_674 qw_25 dX9_carryOutTicks_9)) (s_L (s_o_if_ne dX9_carryOutTicks_12 (by decide)))))) (s_N (s_N (s_N (s_L (s_iconst dX9_carryOutTicks_15 (by decide +kernel))) (s_L (s_zret rfl dX9_carryOutTicks_16))) (s_N (s_L (s_aload_n dX9_carryOutTicks_17 rfl)) (s_L (s_getf ok_7 (k := 0) (by decide) dX9_carryOutTicks_18 qw_319)))) (s_N (s_N (s_L (s_iload_n dX9_carryOutTicks_21 rfl)) (s_L (s_callV (d' := tX6_passTicks) (mc := 0) (ms := 0) ok_5 cc_X9_carryOutTicks_X6_passTicks qw_676 qw_677 qw_678 dX9_carryOutTicks_22))) (s_N (s_L (s_iconst dX9_carryOutTicks_25 (by decide +kernel))) (s_L (s_zret rfl dX9_carryOutTicks_26)))))
