/-! ===== the law and its helpers: codes, soundness ===== -/
/-! L_plates -/
def tL_plates : TrD := (yL_plates, cL_plates, 4, some .int, 7, 145)
def hhL_plates : HH := [(0, 6, 7, 15)]
def hlL_plates : List (String × Int32) := [("java/lang/IllegalArgumentException", -2000002)]
theorem dL_plates_0 : decode cL_plates 0 = .ok (.aload_n 0, 1) := by decide +kernel
theorem dL_plates_1 : decode cL_plates 1 = .ok (.iload_n 1, 1) := by decide +kernel
theorem dL_plates_2 : decode cL_plates 2 = .ok (.iload_n 2, 1) := by decide +kernel
theorem dL_plates_3 : decode cL_plates 3 = .ok (.invokevirtual 9, 3) := by decide +kernel
theorem dL_plates_6 : decode cL_plates 6 = .ok (.ireturn, 1) := by decide +kernel
theorem dL_plates_7 : decode cL_plates 7 = .ok (.astore_n 3, 1) := by decide +kernel
theorem dL_plates_8 : decode cL_plates 8 = .ok (.ldc 17, 2) := by decide +kernel
theorem dL_plates_10 : decode cL_plates 10 = .ok (.ireturn, 1) := by decide +kernel
theorem cc_L_plates_X9_plate : CallC tL_plates tX9_plate 2 := ⟨by decide +kernel, by decide +kernel, by decide +kernel, by decide, by decide, qw_15, qw_291⟩
theorem hoL_plates_0 : HOk tL_plates hhL_plates 3 "java/lang/IllegalArgumentException" (-2000002) := ⟨[], (0, 6, 7, 15), [], 17, rfl, fun _ hz => (nomatch hz), by decide +kernel, by decide, qw_287, by decide +kernel, qw_411, Or.inl ⟨3, dL_plates_7, by decide, dL_plates_8, dL_plates_10⟩⟩
theorem hoL_plates : ∀ (E : String) (k : Int32), (E, k) ∈ hlL_plates → HOk tL_plates hhL_plates 3 E k := fun E k hq => by
  obtain ⟨rfl, rfl⟩ := Prod.mk.inj (List.mem_singleton.mp hq)
  exact hoL_plates_0
abbrev opTL_plates : HOp := o_callVT 6 7 2 tX9_plate 1 6 hlL_plates
theorem sTL_plates : SndH tL_plates hhL_plates 3 opTL_plates := s_callVT (d' := tX9_plate) (mc := 1) (ms := 6) rfl hoL_plates ok_7 cc_L_plates_X9_plate qw_288 qw_289 qw_290 dL_plates_3
def kL_plates : Nat → WOp := cN 3 (cN 1 (cN 0 (cL 0 (o_aload 1 0)) (cL 1 (o_iload 2 1))) (cN 2 (cL 2 (o_iload 3 2)) (cL 3 (oBad)))) (cN 7 (cN 6 (cL 6 (o_iret)) (cL 7 (oBad))) (cN 8 (cL 8 (o_push 10 (-2000002))) (cL 10 (o_iret))))
theorem sL_plates : ∀ pc, Snd tL_plates G1 pc (kL_plates pc) := s_N (s_N (s_N (s_L (s_aload_n dL_plates_0 rfl)) (s_L (s_iload_n dL_plates_1 rfl))) (s_N (s_L (s_iload_n dL_plates_2 rfl)) (s_L (s_bad)))) (s_N (s_N (s_L (s_iret rfl dL_plates_6)) (s_L (s_bad))) (s_N (s_L (s_ldc dL_plates_8 qw_411)) (s_L (s_iret rfl dL_plates_10))))
/-! L_requests -/
def tL_requests : TrD := (yL_requests, cL_requests, 5, some .int, 7, 145)
def hhL_requests : HH := [(0, 7, 8, 15), (0, 7, 13, 22)]
def hlL_requests : List (String × Int32) := [("java/lang/IllegalArgumentException", -2000002), ("java/lang/IllegalStateException", -2000003)]
theorem dL_requests_0 : decode cL_requests 0 = .ok (.aload_n 0, 1) := by decide +kernel
theorem dL_requests_1 : decode cL_requests 1 = .ok (.iload_n 1, 1) := by decide +kernel
theorem dL_requests_2 : decode cL_requests 2 = .ok (.iload_n 2, 1) := by decide +kernel
theorem dL_requests_3 : decode cL_requests 3 = .ok (.iload_n 3, 1) := by decide +kernel
theorem dL_requests_4 : decode cL_requests 4 = .ok (.invokevirtual 18, 3) := by decide +kernel
theorem dL_requests_7 : decode cL_requests 7 = .ok (.ireturn, 1) := by decide +kernel
theorem dL_requests_8 : decode cL_requests 8 = .ok (.astore 4, 2) := by decide +kernel
theorem dL_requests_10 : decode cL_requests 10 = .ok (.ldc 17, 2) := by decide +kernel
theorem dL_requests_12 : decode cL_requests 12 = .ok (.ireturn, 1) := by decide +kernel
theorem dL_requests_13 : decode cL_requests 13 = .ok (.astore 4, 2) := by decide +kernel
theorem dL_requests_15 : decode cL_requests 15 = .ok (.ldc 24, 2) := by decide +kernel
theorem dL_requests_17 : decode cL_requests 17 = .ok (.ireturn, 1) := by decide +kernel
theorem cc_L_requests_X9_request : CallC tL_requests tX9_request 3 := ⟨by decide +kernel, by decide +kernel, by decide +kernel, by decide, by decide, qw_15, qw_419⟩
theorem hoL_requests_0 : HOk tL_requests hhL_requests 4 "java/lang/IllegalArgumentException" (-2000002) := ⟨[], (0, 7, 8, 15), [(0, 7, 13, 22)], 17, rfl, fun _ hz => (nomatch hz), by decide +kernel, by decide, qw_287, by decide +kernel, qw_411, Or.inr ⟨4, dL_requests_8, by decide, dL_requests_10, dL_requests_12⟩⟩
theorem hoL_requests_1 : HOk tL_requests hhL_requests 4 "java/lang/IllegalStateException" (-2000003) := ⟨[(0, 7, 8, 15)], (0, 7, 13, 22), [], 24, rfl, fun z hz => by rw [List.mem_singleton.mp hz]; exact ⟨by decide, "java/lang/IllegalArgumentException", qw_287, by decide +kernel⟩, by decide +kernel, by decide, qw_415, by decide +kernel, qw_448, Or.inr ⟨4, dL_requests_13, by decide, dL_requests_15, dL_requests_17⟩⟩
theorem hoL_requests : ∀ (E : String) (k : Int32), (E, k) ∈ hlL_requests → HOk tL_requests hhL_requests 4 E k := fun E k hq => by
  rcases List.mem_cons.mp hq with hq | hq
  · obtain ⟨rfl, rfl⟩ := Prod.mk.inj hq
    exact hoL_requests_0
  · obtain ⟨rfl, rfl⟩ := Prod.mk.inj (List.mem_singleton.mp hq)
    exact hoL_requests_1
abbrev opTL_requests : HOp := o_callVT 7 7 3 tX9_request 1 6 hlL_requests
theorem sTL_requests : SndH tL_requests hhL_requests 4 opTL_requests := s_callVT (d' := tX9_request) (mc := 1) (ms := 6) rfl hoL_requests ok_7 cc_L_requests_X9_request qw_416 qw_417 qw_418 dL_requests_4
def kL_requests : Nat → WOp := cN 7 (cN 2 (cN 0 (cL 0 (o_aload 1 0)) (cN 1 (cL 1 (o_iload 2 1)) (cL 2 (o_iload 3 2)))) (cN 3 (cL 3 (o_iload 4 3)) (cN 4 (cL 4 (oBad)) (cL 7 (o_iret))))) (cN 12 (cN 8 (cL 8 (oBad)) (cN 10 (cL 10 (o_push 12 (-2000002))) (cL 12 (o_iret)))) (cN 13 (cL 13 (oBad)) (cN 15 (cL 15 (o_push 17 (-2000003))) (cL 17 (o_iret)))))
theorem sL_requests : ∀ pc, Snd tL_requests G1 pc (kL_requests pc) := s_N (s_N (s_N (s_L (s_aload_n dL_requests_0 rfl)) (s_N (s_L (s_iload_n dL_requests_1 rfl)) (s_L (s_iload_n dL_requests_2 rfl)))) (s_N (s_L (s_iload_n dL_requests_3 rfl)) (s_N (s_L (s_bad)) (s_L (s_iret rfl dL_requests_7))))) (s_N (s_N (s_L (s_bad)) (s_N (s_L (s_ldc dL_requests_10 qw_411)) (s_L (s_iret rfl dL_requests_12)))) (s_N (s_L (s_bad)) (s_N (s_L (s_ldc dL_requests_15 qw_448)) (s_L (s_iret rfl dL_requests_17)))))
/-! L_cancels -/
def tL_cancels : TrD := (yL_cancels, cL_cancels, 3, some .int, 7, 145)
def hhL_cancels : HH := [(0, 5, 6, 29)]
def hlL_cancels : List (String × Int32) := [("java/lang/IndexOutOfBoundsException", -2000001)]
theorem dL_cancels_0 : decode cL_cancels 0 = .ok (.aload_n 0, 1) := by decide +kernel
theorem dL_cancels_1 : decode cL_cancels 1 = .ok (.iload_n 1, 1) := by decide +kernel
theorem dL_cancels_2 : decode cL_cancels 2 = .ok (.invokevirtual 25, 3) := by decide +kernel
theorem dL_cancels_5 : decode cL_cancels 5 = .ok (.ireturn, 1) := by decide +kernel
theorem dL_cancels_6 : decode cL_cancels 6 = .ok (.astore_n 2, 1) := by decide +kernel
theorem dL_cancels_7 : decode cL_cancels 7 = .ok (.ldc 31, 2) := by decide +kernel
theorem dL_cancels_9 : decode cL_cancels 9 = .ok (.ireturn, 1) := by decide +kernel
theorem cc_L_cancels_X9_cancel : CallC tL_cancels tX9_cancel 1 := ⟨by decide +kernel, by decide +kernel, by decide +kernel, by decide, by decide, qw_15, qw_459⟩
theorem hoL_cancels_0 : HOk tL_cancels hhL_cancels 2 "java/lang/IndexOutOfBoundsException" (-2000001) := ⟨[], (0, 5, 6, 29), [], 31, rfl, fun _ hz => (nomatch hz), by decide +kernel, by decide, qw_455, by decide +kernel, qw_487, Or.inl ⟨2, dL_cancels_6, by decide, dL_cancels_7, dL_cancels_9⟩⟩
theorem hoL_cancels : ∀ (E : String) (k : Int32), (E, k) ∈ hlL_cancels → HOk tL_cancels hhL_cancels 2 E k := fun E k hq => by
  obtain ⟨rfl, rfl⟩ := Prod.mk.inj (List.mem_singleton.mp hq)
  exact hoL_cancels_0
abbrev opTL_cancels : HOp := o_callVT 5 7 1 tX9_cancel 1 6 hlL_cancels
theorem sTL_cancels : SndH tL_cancels hhL_cancels 2 opTL_cancels := s_callVT (d' := tX9_cancel) (mc := 1) (ms := 6) rfl hoL_cancels ok_7 cc_L_cancels_X9_cancel qw_456 qw_457 qw_458 dL_cancels_2
def kL_cancels : Nat → WOp := cN 2 (cN 0 (cL 0 (o_aload 1 0)) (cN 1 (cL 1 (o_iload 2 1)) (cL 2 (oBad)))) (cN 6 (cN 5 (cL 5 (o_iret)) (cL 6 (oBad))) (cN 7 (cL 7 (o_push 9 (-2000001))) (cL 9 (o_iret))))
theorem sL_cancels : ∀ pc, Snd tL_cancels G1 pc (kL_cancels pc) := s_N (s_N (s_L (s_aload_n dL_cancels_0 rfl)) (s_N (s_L (s_iload_n dL_cancels_1 rfl)) (s_L (s_bad)))) (s_N (s_N (s_L (s_iret rfl dL_cancels_5)) (s_L (s_bad))) (s_N (s_L (s_ldc dL_cancels_7 qw_487)) (s_L (s_iret rfl dL_cancels_9))))
/-! L_sets -/
def tL_sets : TrD := (yL_sets, cL_sets, 4, some .int, 7, 145)
def hhL_sets : HH := [(0, 6, 7, 15)]
def hlL_sets : List (String × Int32) := [("java/lang/IllegalArgumentException", -2000002)]
theorem dL_sets_0 : decode cL_sets 0 = .ok (.aload_n 0, 1) := by decide +kernel
theorem dL_sets_1 : decode cL_sets 1 = .ok (.iload_n 1, 1) := by decide +kernel
theorem dL_sets_2 : decode cL_sets 2 = .ok (.iload_n 2, 1) := by decide +kernel
theorem dL_sets_3 : decode cL_sets 3 = .ok (.invokevirtual 32, 3) := by decide +kernel
theorem dL_sets_6 : decode cL_sets 6 = .ok (.ireturn, 1) := by decide +kernel
theorem dL_sets_7 : decode cL_sets 7 = .ok (.astore_n 3, 1) := by decide +kernel
theorem dL_sets_8 : decode cL_sets 8 = .ok (.ldc 17, 2) := by decide +kernel
theorem dL_sets_10 : decode cL_sets 10 = .ok (.ireturn, 1) := by decide +kernel
theorem cc_L_sets_X9_set : CallC tL_sets tX9_set 2 := ⟨by decide +kernel, by decide +kernel, by decide +kernel, by decide, by decide, qw_15, qw_497⟩
theorem hoL_sets_0 : HOk tL_sets hhL_sets 3 "java/lang/IllegalArgumentException" (-2000002) := ⟨[], (0, 6, 7, 15), [], 17, rfl, fun _ hz => (nomatch hz), by decide +kernel, by decide, qw_287, by decide +kernel, qw_411, Or.inl ⟨3, dL_sets_7, by decide, dL_sets_8, dL_sets_10⟩⟩
theorem hoL_sets : ∀ (E : String) (k : Int32), (E, k) ∈ hlL_sets → HOk tL_sets hhL_sets 3 E k := fun E k hq => by
  obtain ⟨rfl, rfl⟩ := Prod.mk.inj (List.mem_singleton.mp hq)
  exact hoL_sets_0
abbrev opTL_sets : HOp := o_callVT 6 7 2 tX9_set 1 6 hlL_sets
theorem sTL_sets : SndH tL_sets hhL_sets 3 opTL_sets := s_callVT (d' := tX9_set) (mc := 1) (ms := 6) rfl hoL_sets ok_7 cc_L_sets_X9_set qw_494 qw_495 qw_496 dL_sets_3
def kL_sets : Nat → WOp := cN 3 (cN 1 (cN 0 (cL 0 (o_aload 1 0)) (cL 1 (o_iload 2 1))) (cN 2 (cL 2 (o_iload 3 2)) (cL 3 (oBad)))) (cN 7 (cN 6 (cL 6 (o_iret)) (cL 7 (oBad))) (cN 8 (cL 8 (o_push 10 (-2000002))) (cL 10 (o_iret))))
theorem sL_sets : ∀ pc, Snd tL_sets G1 pc (kL_sets pc) := s_N (s_N (s_N (s_L (s_aload_n dL_sets_0 rfl)) (s_L (s_iload_n dL_sets_1 rfl))) (s_N (s_L (s_iload_n dL_sets_2 rfl)) (s_L (s_bad)))) (s_N (s_N (s_L (s_iret rfl dL_sets_6)) (s_L (s_bad))) (s_N (s_L (s_ldc dL_sets_8 qw_411)) (s_L (s_iret rfl dL_sets_10))))
/-! L_passes -/
def tL_passes : TrD := (yL_passes, cL_passes, 3, some .int, 7, 144)
def hhL_passes : HH := [(0, 5, 6, 15), (0, 5, 10, 22)]
def hlL_passes : List (String × Int32) := [("java/lang/IllegalArgumentException", -2000002), ("java/lang/IllegalStateException", -2000003)]
theorem dL_passes_0 : decode cL_passes 0 = .ok (.aload_n 0, 1) := by decide +kernel
theorem dL_passes_1 : decode cL_passes 1 = .ok (.iload_n 1, 1) := by decide +kernel
theorem dL_passes_2 : decode cL_passes 2 = .ok (.invokevirtual 35, 3) := by decide +kernel
theorem dL_passes_5 : decode cL_passes 5 = .ok (.ireturn, 1) := by decide +kernel
theorem dL_passes_6 : decode cL_passes 6 = .ok (.astore_n 2, 1) := by decide +kernel
theorem dL_passes_7 : decode cL_passes 7 = .ok (.ldc 17, 2) := by decide +kernel
theorem dL_passes_9 : decode cL_passes 9 = .ok (.ireturn, 1) := by decide +kernel
theorem dL_passes_10 : decode cL_passes 10 = .ok (.astore_n 2, 1) := by decide +kernel
theorem dL_passes_11 : decode cL_passes 11 = .ok (.ldc 24, 2) := by decide +kernel
theorem dL_passes_13 : decode cL_passes 13 = .ok (.ireturn, 1) := by decide +kernel
theorem cc_L_passes_X9_pass : CallC tL_passes tX9_pass 1 := ⟨by decide +kernel, by decide +kernel, by decide +kernel, by decide, by decide, qw_15, qw_601⟩
theorem hoL_passes_0 : HOk tL_passes hhL_passes 2 "java/lang/IllegalArgumentException" (-2000002) := ⟨[], (0, 5, 6, 15), [(0, 5, 10, 22)], 17, rfl, fun _ hz => (nomatch hz), by decide +kernel, by decide, qw_287, by decide +kernel, qw_411, Or.inl ⟨2, dL_passes_6, by decide, dL_passes_7, dL_passes_9⟩⟩
theorem hoL_passes_1 : HOk tL_passes hhL_passes 2 "java/lang/IllegalStateException" (-2000003) := ⟨[(0, 5, 6, 15)], (0, 5, 10, 22), [], 24, rfl, fun z hz => by rw [List.mem_singleton.mp hz]; exact ⟨by decide, "java/lang/IllegalArgumentException", qw_287, by decide +kernel⟩, by decide +kernel, by decide, qw_415, by decide +kernel, qw_448, Or.inl ⟨2, dL_passes_10, by decide, dL_passes_11, dL_passes_13⟩⟩
theorem hoL_passes : ∀ (E : String) (k : Int32), (E, k) ∈ hlL_passes → HOk tL_passes hhL_passes 2 E k := fun E k hq => by
  rcases List.mem_cons.mp hq with hq | hq
  · obtain ⟨rfl, rfl⟩ := Prod.mk.inj hq
    exact hoL_passes_0
  · obtain ⟨rfl, rfl⟩ := Prod.mk.inj (List.mem_singleton.mp hq)
    exact hoL_passes_1
abbrev opTL_passes : HOp := o_callVT 5 7 1 tX9_pass 1 6 hlL_passes
theorem sTL_passes : SndH tL_passes hhL_passes 2 opTL_passes := s_callVT (d' := tX9_pass) (mc := 1) (ms := 6) rfl hoL_passes ok_7 cc_L_passes_X9_pass qw_598 qw_599 qw_600 dL_passes_2
def kL_passes : Nat → WOp := cN 6 (cN 1 (cN 0 (cL 0 (o_aload 1 0)) (cL 1 (o_iload 2 1))) (cN 2 (cL 2 (oBad)) (cN 5 (cL 5 (o_iret)) (cL 6 (oBad))))) (cN 9 (cN 7 (cL 7 (o_push 9 (-2000002))) (cL 9 (o_iret))) (cN 10 (cL 10 (oBad)) (cN 11 (cL 11 (o_push 13 (-2000003))) (cL 13 (o_iret)))))
theorem sL_passes : ∀ pc, Snd tL_passes G1 pc (kL_passes pc) := s_N (s_N (s_N (s_L (s_aload_n dL_passes_0 rfl)) (s_L (s_iload_n dL_passes_1 rfl))) (s_N (s_L (s_bad)) (s_N (s_L (s_iret rfl dL_passes_5)) (s_L (s_bad))))) (s_N (s_N (s_L (s_ldc dL_passes_7 qw_411)) (s_L (s_iret rfl dL_passes_9))) (s_N (s_L (s_bad)) (s_N (s_L (s_ldc dL_passes_11 qw_448)) (s_L (s_iret rfl dL_passes_13)))))
/-! L_finishes -/
def tL_finishes : TrD := (yL_finishes, cL_finishes, 2, some .int, 7, 143)
def hhL_finishes : HH := [(0, 4, 5, 22)]
def hlL_finishes : List (String × Int32) := [("java/lang/IllegalStateException", -2000003)]
theorem dL_finishes_0 : decode cL_finishes 0 = .ok (.aload_n 0, 1) := by decide +kernel
theorem dL_finishes_1 : decode cL_finishes 1 = .ok (.invokevirtual 38, 3) := by decide +kernel
theorem dL_finishes_4 : decode cL_finishes 4 = .ok (.ireturn, 1) := by decide +kernel
theorem dL_finishes_5 : decode cL_finishes 5 = .ok (.astore_n 1, 1) := by decide +kernel
theorem dL_finishes_6 : decode cL_finishes 6 = .ok (.ldc 24, 2) := by decide +kernel
theorem dL_finishes_8 : decode cL_finishes 8 = .ok (.ireturn, 1) := by decide +kernel
theorem cc_L_finishes_X9_finish : CallC tL_finishes tX9_finish 0 := ⟨by decide +kernel, by decide +kernel, by decide +kernel, by decide, by decide, qw_15, qw_511⟩
theorem hoL_finishes_0 : HOk tL_finishes hhL_finishes 1 "java/lang/IllegalStateException" (-2000003) := ⟨[], (0, 4, 5, 22), [], 24, rfl, fun _ hz => (nomatch hz), by decide +kernel, by decide, qw_415, by decide +kernel, qw_448, Or.inl ⟨1, dL_finishes_5, by decide, dL_finishes_6, dL_finishes_8⟩⟩
theorem hoL_finishes : ∀ (E : String) (k : Int32), (E, k) ∈ hlL_finishes → HOk tL_finishes hhL_finishes 1 E k := fun E k hq => by
  obtain ⟨rfl, rfl⟩ := Prod.mk.inj (List.mem_singleton.mp hq)
  exact hoL_finishes_0
abbrev opTL_finishes : HOp := o_callVT 4 7 0 tX9_finish 1 6 hlL_finishes
theorem sTL_finishes : SndH tL_finishes hhL_finishes 1 opTL_finishes := s_callVT (d' := tX9_finish) (mc := 1) (ms := 6) rfl hoL_finishes ok_7 cc_L_finishes_X9_finish qw_508 qw_509 qw_510 dL_finishes_1
def kL_finishes : Nat → WOp := cN 4 (cN 0 (cL 0 (o_aload 1 0)) (cN 1 (cL 1 (oBad)) (cL 4 (o_iret)))) (cN 5 (cL 5 (oBad)) (cN 6 (cL 6 (o_push 8 (-2000003))) (cL 8 (o_iret))))
theorem sL_finishes : ∀ pc, Snd tL_finishes G1 pc (kL_finishes pc) := s_N (s_N (s_L (s_aload_n dL_finishes_0 rfl)) (s_N (s_L (s_bad)) (s_L (s_iret rfl dL_finishes_4)))) (s_N (s_L (s_bad)) (s_N (s_L (s_ldc dL_finishes_6 qw_448)) (s_L (s_iret rfl dL_finishes_8))))
/-! L_requestOf -/
def tL_requestOf : TrD := (yL_requestOf, cL_requestOf, 4, some .int, 7, 104)
def hhL_requestOf : HH := [(0, 6, 7, 29), (0, 6, 11, 15)]
def hlL_requestOf : List (String × Int32) := [("java/lang/IndexOutOfBoundsException", -2000001), ("java/lang/IllegalArgumentException", -2000002)]
theorem dL_requestOf_0 : decode cL_requestOf 0 = .ok (.aload_n 0, 1) := by decide +kernel
theorem dL_requestOf_1 : decode cL_requestOf 1 = .ok (.iload_n 1, 1) := by decide +kernel
theorem dL_requestOf_2 : decode cL_requestOf 2 = .ok (.iload_n 2, 1) := by decide +kernel
theorem dL_requestOf_3 : decode cL_requestOf 3 = .ok (.invokevirtual 92, 3) := by decide +kernel
theorem dL_requestOf_6 : decode cL_requestOf 6 = .ok (.ireturn, 1) := by decide +kernel
theorem dL_requestOf_7 : decode cL_requestOf 7 = .ok (.astore_n 3, 1) := by decide +kernel
theorem dL_requestOf_8 : decode cL_requestOf 8 = .ok (.ldc 31, 2) := by decide +kernel
theorem dL_requestOf_10 : decode cL_requestOf 10 = .ok (.ireturn, 1) := by decide +kernel
theorem dL_requestOf_11 : decode cL_requestOf 11 = .ok (.astore_n 3, 1) := by decide +kernel
theorem dL_requestOf_12 : decode cL_requestOf 12 = .ok (.ldc 17, 2) := by decide +kernel
theorem dL_requestOf_14 : decode cL_requestOf 14 = .ok (.ireturn, 1) := by decide +kernel
theorem cc_L_requestOf_X9_requestOf : CallC tL_requestOf tX9_requestOf 2 := ⟨by decide +kernel, by decide +kernel, by decide +kernel, by decide, by decide, qw_15, qw_615⟩
theorem hoL_requestOf_0 : HOk tL_requestOf hhL_requestOf 3 "java/lang/IndexOutOfBoundsException" (-2000001) := ⟨[], (0, 6, 7, 29), [(0, 6, 11, 15)], 31, rfl, fun _ hz => (nomatch hz), by decide +kernel, by decide, qw_455, by decide +kernel, qw_487, Or.inl ⟨3, dL_requestOf_7, by decide, dL_requestOf_8, dL_requestOf_10⟩⟩
theorem hoL_requestOf_1 : HOk tL_requestOf hhL_requestOf 3 "java/lang/IllegalArgumentException" (-2000002) := ⟨[(0, 6, 7, 29)], (0, 6, 11, 15), [], 17, rfl, fun z hz => by rw [List.mem_singleton.mp hz]; exact ⟨by decide, "java/lang/IndexOutOfBoundsException", qw_455, by decide +kernel⟩, by decide +kernel, by decide, qw_287, by decide +kernel, qw_411, Or.inl ⟨3, dL_requestOf_11, by decide, dL_requestOf_12, dL_requestOf_14⟩⟩
theorem hoL_requestOf : ∀ (E : String) (k : Int32), (E, k) ∈ hlL_requestOf → HOk tL_requestOf hhL_requestOf 3 E k := fun E k hq => by
  rcases List.mem_cons.mp hq with hq | hq
  · obtain ⟨rfl, rfl⟩ := Prod.mk.inj hq
    exact hoL_requestOf_0
  · obtain ⟨rfl, rfl⟩ := Prod.mk.inj (List.mem_singleton.mp hq)
    exact hoL_requestOf_1
abbrev opTL_requestOf : HOp := o_callVT 6 7 2 tX9_requestOf 1 6 hlL_requestOf
theorem sTL_requestOf : SndH tL_requestOf hhL_requestOf 3 opTL_requestOf := s_callVT (d' := tX9_requestOf) (mc := 1) (ms := 6) rfl hoL_requestOf ok_7 cc_L_requestOf_X9_requestOf qw_612 qw_613 qw_614 dL_requestOf_3
def kL_requestOf : Nat → WOp := cN 6 (cN 1 (cN 0 (cL 0 (o_aload 1 0)) (cL 1 (o_iload 2 1))) (cN 2 (cL 2 (o_iload 3 2)) (cN 3 (cL 3 (oBad)) (cL 6 (o_iret))))) (cN 10 (cN 7 (cL 7 (oBad)) (cN 8 (cL 8 (o_push 10 (-2000001))) (cL 10 (o_iret)))) (cN 11 (cL 11 (oBad)) (cN 12 (cL 12 (o_push 14 (-2000002))) (cL 14 (o_iret)))))
theorem sL_requestOf : ∀ pc, Snd tL_requestOf G1 pc (kL_requestOf pc) := s_N (s_N (s_N (s_L (s_aload_n dL_requestOf_0 rfl)) (s_L (s_iload_n dL_requestOf_1 rfl))) (s_N (s_L (s_iload_n dL_requestOf_2 rfl)) (s_N (s_L (s_bad)) (s_L (s_iret rfl dL_requestOf_6))))) (s_N (s_N (s_L (s_bad)) (s_N (s_L (s_ldc dL_requestOf_8 qw_487)) (s_L (s_iret rfl dL_requestOf_10)))) (s_N (s_L (s_bad)) (s_N (s_L (s_ldc dL_requestOf_12 qw_411)) (s_L (s_iret rfl dL_requestOf_14)))))
/-! L_requestAt -/
def tL_requestAt : TrD := (yL_requestAt, cL_requestAt, 3, some .int, 7, 102)
def hhL_requestAt : HH := [(0, 5, 6, 15)]
def hlL_requestAt : List (String × Int32) := [("java/lang/IllegalArgumentException", -2000002)]
theorem dL_requestAt_0 : decode cL_requestAt 0 = .ok (.aload_n 0, 1) := by decide +kernel
theorem dL_requestAt_1 : decode cL_requestAt 1 = .ok (.iload_n 1, 1) := by decide +kernel
theorem dL_requestAt_2 : decode cL_requestAt 2 = .ok (.invokevirtual 95, 3) := by decide +kernel
theorem dL_requestAt_5 : decode cL_requestAt 5 = .ok (.ireturn, 1) := by decide +kernel
theorem dL_requestAt_6 : decode cL_requestAt 6 = .ok (.astore_n 2, 1) := by decide +kernel
theorem dL_requestAt_7 : decode cL_requestAt 7 = .ok (.ldc 17, 2) := by decide +kernel
theorem dL_requestAt_9 : decode cL_requestAt 9 = .ok (.ireturn, 1) := by decide +kernel
theorem cc_L_requestAt_X9_requestAt : CallC tL_requestAt tX9_requestAt 1 := ⟨by decide +kernel, by decide +kernel, by decide +kernel, by decide, by decide, qw_15, qw_627⟩
theorem hoL_requestAt_0 : HOk tL_requestAt hhL_requestAt 2 "java/lang/IllegalArgumentException" (-2000002) := ⟨[], (0, 5, 6, 15), [], 17, rfl, fun _ hz => (nomatch hz), by decide +kernel, by decide, qw_287, by decide +kernel, qw_411, Or.inl ⟨2, dL_requestAt_6, by decide, dL_requestAt_7, dL_requestAt_9⟩⟩
theorem hoL_requestAt : ∀ (E : String) (k : Int32), (E, k) ∈ hlL_requestAt → HOk tL_requestAt hhL_requestAt 2 E k := fun E k hq => by
  obtain ⟨rfl, rfl⟩ := Prod.mk.inj (List.mem_singleton.mp hq)
  exact hoL_requestAt_0
abbrev opTL_requestAt : HOp := o_callVT 5 7 1 tX9_requestAt 1 6 hlL_requestAt
theorem sTL_requestAt : SndH tL_requestAt hhL_requestAt 2 opTL_requestAt := s_callVT (d' := tX9_requestAt) (mc := 1) (ms := 6) rfl hoL_requestAt ok_7 cc_L_requestAt_X9_requestAt qw_624 qw_625 qw_626 dL_requestAt_2
def kL_requestAt : Nat → WOp := cN 2 (cN 0 (cL 0 (o_aload 1 0)) (cN 1 (cL 1 (o_iload 2 1)) (cL 2 (oBad)))) (cN 6 (cN 5 (cL 5 (o_iret)) (cL 6 (oBad))) (cN 7 (cL 7 (o_push 9 (-2000002))) (cL 9 (o_iret))))
theorem sL_requestAt : ∀ pc, Snd tL_requestAt G1 pc (kL_requestAt pc) := s_N (s_N (s_L (s_aload_n dL_requestAt_0 rfl)) (s_N (s_L (s_iload_n dL_requestAt_1 rfl)) (s_L (s_bad)))) (s_N (s_N (s_L (s_iret rfl dL_requestAt_5)) (s_L (s_bad))) (s_N (s_L (s_ldc dL_requestAt_7 qw_411)) (s_L (s_iret rfl dL_requestAt_9))))
/-! L_loggedOf -/
def tL_loggedOf : TrD := (yL_loggedOf, cL_loggedOf, 4, some .int, 7, 103)
def hhL_loggedOf : HH := [(0, 6, 7, 15)]
def hlL_loggedOf : List (String × Int32) := [("java/lang/IllegalArgumentException", -2000002)]
theorem dL_loggedOf_0 : decode cL_loggedOf 0 = .ok (.aload_n 0, 1) := by decide +kernel
theorem dL_loggedOf_1 : decode cL_loggedOf 1 = .ok (.iload_n 1, 1) := by decide +kernel
theorem dL_loggedOf_2 : decode cL_loggedOf 2 = .ok (.iload_n 2, 1) := by decide +kernel
theorem dL_loggedOf_3 : decode cL_loggedOf 3 = .ok (.invokevirtual 98, 3) := by decide +kernel
theorem dL_loggedOf_6 : decode cL_loggedOf 6 = .ok (.ireturn, 1) := by decide +kernel
theorem dL_loggedOf_7 : decode cL_loggedOf 7 = .ok (.astore_n 3, 1) := by decide +kernel
theorem dL_loggedOf_8 : decode cL_loggedOf 8 = .ok (.ldc 17, 2) := by decide +kernel
theorem dL_loggedOf_10 : decode cL_loggedOf 10 = .ok (.ireturn, 1) := by decide +kernel
theorem cc_L_loggedOf_X9_logged : CallC tL_loggedOf tX9_logged 2 := ⟨by decide +kernel, by decide +kernel, by decide +kernel, by decide, by decide, qw_15, qw_634⟩
theorem hoL_loggedOf_0 : HOk tL_loggedOf hhL_loggedOf 3 "java/lang/IllegalArgumentException" (-2000002) := ⟨[], (0, 6, 7, 15), [], 17, rfl, fun _ hz => (nomatch hz), by decide +kernel, by decide, qw_287, by decide +kernel, qw_411, Or.inl ⟨3, dL_loggedOf_7, by decide, dL_loggedOf_8, dL_loggedOf_10⟩⟩
theorem hoL_loggedOf : ∀ (E : String) (k : Int32), (E, k) ∈ hlL_loggedOf → HOk tL_loggedOf hhL_loggedOf 3 E k := fun E k hq => by
  obtain ⟨rfl, rfl⟩ := Prod.mk.inj (List.mem_singleton.mp hq)
  exact hoL_loggedOf_0
abbrev opTL_loggedOf : HOp := o_callVT 6 7 2 tX9_logged 1 6 hlL_loggedOf
theorem sTL_loggedOf : SndH tL_loggedOf hhL_loggedOf 3 opTL_loggedOf := s_callVT (d' := tX9_logged) (mc := 1) (ms := 6) rfl hoL_loggedOf ok_7 cc_L_loggedOf_X9_logged qw_631 qw_632 qw_633 dL_loggedOf_3
def kL_loggedOf : Nat → WOp := cN 3 (cN 1 (cN 0 (cL 0 (o_aload 1 0)) (cL 1 (o_iload 2 1))) (cN 2 (cL 2 (o_iload 3 2)) (cL 3 (oBad)))) (cN 7 (cN 6 (cL 6 (o_iret)) (cL 7 (oBad))) (cN 8 (cL 8 (o_push 10 (-2000002))) (cL 10 (o_iret))))
theorem sL_loggedOf : ∀ pc, Snd tL_loggedOf G1 pc (kL_loggedOf pc) := s_N (s_N (s_N (s_L (s_aload_n dL_loggedOf_0 rfl)) (s_L (s_iload_n dL_loggedOf_1 rfl))) (s_N (s_L (s_iload_n dL_loggedOf_2 rfl)) (s_L (s_bad)))) (s_N (s_N (s_L (s_iret rfl dL_loggedOf_6)) (s_L (s_bad))) (s_N (s_L (s_ldc dL_loggedOf_8 qw_411)) (s_L (s_iret rfl dL_loggedOf_10))))
/-! L_armOf -/
def tL_armOf : TrD := (yL_armOf, cL_armOf, 3, some .int, 7, 102)
def hhL_armOf : HH := [(0, 5, 6, 15)]
def hlL_armOf : List (String × Int32) := [("java/lang/IllegalArgumentException", -2000002)]
theorem dL_armOf_0 : decode cL_armOf 0 = .ok (.aload_n 0, 1) := by decide +kernel
theorem dL_armOf_1 : decode cL_armOf 1 = .ok (.iload_n 1, 1) := by decide +kernel
theorem dL_armOf_2 : decode cL_armOf 2 = .ok (.invokevirtual 101, 3) := by decide +kernel
theorem dL_armOf_5 : decode cL_armOf 5 = .ok (.ireturn, 1) := by decide +kernel
theorem dL_armOf_6 : decode cL_armOf 6 = .ok (.astore_n 2, 1) := by decide +kernel
theorem dL_armOf_7 : decode cL_armOf 7 = .ok (.ldc 17, 2) := by decide +kernel
theorem dL_armOf_9 : decode cL_armOf 9 = .ok (.ireturn, 1) := by decide +kernel
theorem cc_L_armOf_X9_arm : CallC tL_armOf tX9_arm 1 := ⟨by decide +kernel, by decide +kernel, by decide +kernel, by decide, by decide, qw_15, qw_652⟩
theorem hoL_armOf_0 : HOk tL_armOf hhL_armOf 2 "java/lang/IllegalArgumentException" (-2000002) := ⟨[], (0, 5, 6, 15), [], 17, rfl, fun _ hz => (nomatch hz), by decide +kernel, by decide, qw_287, by decide +kernel, qw_411, Or.inl ⟨2, dL_armOf_6, by decide, dL_armOf_7, dL_armOf_9⟩⟩
theorem hoL_armOf : ∀ (E : String) (k : Int32), (E, k) ∈ hlL_armOf → HOk tL_armOf hhL_armOf 2 E k := fun E k hq => by
  obtain ⟨rfl, rfl⟩ := Prod.mk.inj (List.mem_singleton.mp hq)
  exact hoL_armOf_0
abbrev opTL_armOf : HOp := o_callVT 5 7 1 tX9_arm 1 6 hlL_armOf
theorem sTL_armOf : SndH tL_armOf hhL_armOf 2 opTL_armOf := s_callVT (d' := tX9_arm) (mc := 1) (ms := 6) rfl hoL_armOf ok_7 cc_L_armOf_X9_arm qw_649 qw_650 qw_651 dL_armOf_2
def kL_armOf : Nat → WOp := cN 2 (cN 0 (cL 0 (o_aload 1 0)) (cN 1 (cL 1 (o_iload 2 1)) (cL 2 (oBad)))) (cN 6 (cN 5 (cL 5 (o_iret)) (cL 6 (oBad))) (cN 7 (cL 7 (o_push 9 (-2000002))) (cL 9 (o_iret))))
theorem sL_armOf : ∀ pc, Snd tL_armOf G1 pc (kL_armOf pc) := s_N (s_N (s_L (s_aload_n dL_armOf_0 rfl)) (s_N (s_L (s_iload_n dL_armOf_1 rfl)) (s_L (s_bad)))) (s_N (s_N (s_L (s_iret rfl dL_armOf_5)) (s_L (s_bad))) (s_N (s_L (s_ldc dL_armOf_7 qw_411)) (s_L (s_iret rfl dL_armOf_9))))
/-! L_wholeOf -/
def tL_wholeOf : TrD := (yL_wholeOf, cL_wholeOf, 3, some .int, 7, 102)
def hhL_wholeOf : HH := [(0, 5, 6, 15)]
def hlL_wholeOf : List (String × Int32) := [("java/lang/IllegalArgumentException", -2000002)]
theorem dL_wholeOf_0 : decode cL_wholeOf 0 = .ok (.aload_n 0, 1) := by decide +kernel
theorem dL_wholeOf_1 : decode cL_wholeOf 1 = .ok (.iload_n 1, 1) := by decide +kernel
theorem dL_wholeOf_2 : decode cL_wholeOf 2 = .ok (.invokevirtual 104, 3) := by decide +kernel
theorem dL_wholeOf_5 : decode cL_wholeOf 5 = .ok (.ireturn, 1) := by decide +kernel
theorem dL_wholeOf_6 : decode cL_wholeOf 6 = .ok (.astore_n 2, 1) := by decide +kernel
theorem dL_wholeOf_7 : decode cL_wholeOf 7 = .ok (.ldc 17, 2) := by decide +kernel
theorem dL_wholeOf_9 : decode cL_wholeOf 9 = .ok (.ireturn, 1) := by decide +kernel
theorem cc_L_wholeOf_X9_whole : CallC tL_wholeOf tX9_whole 1 := ⟨by decide +kernel, by decide +kernel, by decide +kernel, by decide, by decide, qw_15, qw_660⟩
theorem hoL_wholeOf_0 : HOk tL_wholeOf hhL_wholeOf 2 "java/lang/IllegalArgumentException" (-2000002) := ⟨[], (0, 5, 6, 15), [], 17, rfl, fun _ hz => (nomatch hz), by decide +kernel, by decide, qw_287, by decide +kernel, qw_411, Or.inl ⟨2, dL_wholeOf_6, by decide, dL_wholeOf_7, dL_wholeOf_9⟩⟩
theorem hoL_wholeOf : ∀ (E : String) (k : Int32), (E, k) ∈ hlL_wholeOf → HOk tL_wholeOf hhL_wholeOf 2 E k := fun E k hq => by
  obtain ⟨rfl, rfl⟩ := Prod.mk.inj (List.mem_singleton.mp hq)
  exact hoL_wholeOf_0
abbrev opTL_wholeOf : HOp := o_callVT 5 7 1 tX9_whole 1 6 hlL_wholeOf
theorem sTL_wholeOf : SndH tL_wholeOf hhL_wholeOf 2 opTL_wholeOf := s_callVT (d' := tX9_whole) (mc := 1) (ms := 6) rfl hoL_wholeOf ok_7 cc_L_wholeOf_X9_whole qw_657 qw_658 qw_659 dL_wholeOf_2
def kL_wholeOf : Nat → WOp := cN 2 (cN 0 (cL 0 (o_aload 1 0)) (cN 1 (cL 1 (o_iload 2 1)) (cL 2 (oBad)))) (cN 6 (cN 5 (cL 5 (o_iret)) (cL 6 (oBad))) (cN 7 (cL 7 (o_push 9 (-2000002))) (cL 9 (o_iret))))
theorem sL_wholeOf : ∀ pc, Snd tL_wholeOf G1 pc (kL_wholeOf pc) := s_N (s_N (s_L (s_aload_n dL_wholeOf_0 rfl)) (s_N (s_L (s_iload_n dL_wholeOf_1 rfl)) (s_L (s_bad)))) (s_N (s_N (s_L (s_iret rfl dL_wholeOf_5)) (s_L (s_bad))) (s_N (s_L (s_ldc dL_wholeOf_7 qw_411)) (s_L (s_iret rfl dL_wholeOf_9))))
