/-! java/lang/Enum.ordinal -/
theorem dJx29ce0_ordinal_8abf5_0 : decode cJx29ce0_ordinal_8abf5 0 = .ok (.aload_n 0, 1) := by decide +kernel
theorem dJx29ce0_ordinal_8abf5_1 : decode cJx29ce0_ordinal_8abf5 1 = .ok (.getfield 7, 3) := by decide +kernel
theorem dJx29ce0_ordinal_8abf5_4 : decode cJx29ce0_ordinal_8abf5 4 = .ok (.ireturn, 1) := by decide +kernel
def kJx29ce0_ordinal_8abf5 : Nat → WOp := cN 0 (cL 0 (o_aload 1 0)) (cN 1 (cL 1 (o_getx 4 0 [.int 0, .int 1, .int 2, .int 3, .int 4, .int 5])) (cL 4 (o_iret)))
theorem sJx29ce0_ordinal_8abf5 : ∀ pc, Snd tJx29ce0_ordinal_8abf5 G1 pc (kJx29ce0_ordinal_8abf5 pc) := s_N (s_L (s_aload_n dJx29ce0_ordinal_8abf5_0 rfl)) (s_N (s_L (s_getx (lo := 0) xg_ordinal dJx29ce0_ordinal_8abf5_1 qw_1282)) (s_L (s_iret rfl dJx29ce0_ordinal_8abf5_4)))
