/-! the classes, and the data of the methods -/
abbrev G1 : GX := fun _ _ _ => True
theorem ok_0 : ClOk 0 RX1 TX1 5 tyX1 := ⟨rfl, fun w hw => List.mem_filter.mpr ⟨inw_0 w hw, by revert w; decide +kernel⟩, tyX1_ok, nmX1⟩
theorem ok_1 : ClOk 1 RX2 TX2 6 tyX2 := ⟨rfl, fun w hw => List.mem_filter.mpr ⟨inw_1 w hw, by revert w; decide +kernel⟩, tyX2_ok, nmX2⟩
theorem ok_2 : ClOk 2 RX3 TX3 2 tyX3 := ⟨rfl, fun w hw => List.mem_filter.mpr ⟨inw_2 w hw, by revert w; decide +kernel⟩, tyX3_ok, nmX3⟩
theorem ok_3 : ClOk 3 RX4 TX4 2 tyX4 := ⟨rfl, fun w hw => List.mem_filter.mpr ⟨inw_3 w hw, by revert w; decide +kernel⟩, tyX4_ok, nmX4⟩
theorem ok_4 : ClOk 4 RX5 TX5 7 tyX5 := ⟨rfl, fun w hw => List.mem_filter.mpr ⟨inw_4 w hw, by revert w; decide +kernel⟩, tyX5_ok, nmX5⟩
theorem ok_5 : ClOk 5 RX6 TX6 8 tyX6 := ⟨rfl, fun w hw => List.mem_filter.mpr ⟨inw_5 w hw, by revert w; decide +kernel⟩, tyX6_ok, nmX6⟩
theorem ok_6 : ClOk 6 RX7 TX7 7 tyX7 := ⟨rfl, fun w hw => List.mem_filter.mpr ⟨inw_6 w hw, by revert w; decide +kernel⟩, tyX7_ok, nmX7⟩
theorem ok_7 : ClOk 7 RX9 TX9 7 tyX9 := ⟨rfl, fun w hw => List.mem_filter.mpr ⟨inw_7 w hw, by revert w; decide +kernel⟩, tyX9_ok, nmX9⟩
def tX1_init : TrD := (yX1_init, cX1_init, 1, none, 1, 12)
def tX1_opposite : TrD := (yX1_opposite, cX1_opposite, 1, some .int, 0, 0)
def tX1_reset : TrD := (yX1_reset, cX1_reset, 1, none, 0, 0)
def tX1_copyFrom : TrD := (yX1_copyFrom, cX1_copyFrom, 2, none, 0, 0)
def tX1_liesFarther : TrD := (yX1_liesFarther, cX1_liesFarther, 2, some .boolean, 0, 0)
def tX1_step : TrD := (yX1_step, cX1_step, 1, none, 0, 0)
def tX1_cool : TrD := (yX1_cool, cX1_cool, 2, none, 0, 0)
def tX2_init : TrD := (yX2_init, cX2_init, 1, none, 1, 12)
def tX3_init : TrD := (yX3_init, cX3_init, 1, none, 1, 12)
def tX4_init : TrD := (yX4_init, cX4_init, 1, none, 1, 12)
def tX4_reset : TrD := (yX4_reset, cX4_reset, 1, none, 0, 0)
def tX4_copyFrom : TrD := (yX4_copyFrom, cX4_copyFrom, 2, none, 1, 60)
def tX4_kept : TrD := (yX4_kept, cX4_kept, 1, some .int, 1, 21)
def tX4_write : TrD := (yX4_write, cX4_write, 7, none, 0, 0)
def tX4_valueOf : TrD := (yX4_valueOf, cX4_valueOf, 3, some .int, 0, 0)
def tX5_init : TrD := (yX5_init, cX5_init, 1, none, 1, 12)
def tX5_reset : TrD := (yX5_reset, cX5_reset, 1, none, 0, 0)
def tX5_copyFrom : TrD := (yX5_copyFrom, cX5_copyFrom, 2, none, 1, 60)
def tX5_isFull : TrD := (yX5_isFull, cX5_isFull, 1, some .boolean, 0, 0)
def tX5_add : TrD := (yX5_add, cX5_add, 5, some .int, 1, 20)
def tX5_indexOf : TrD := (yX5_indexOf, cX5_indexOf, 3, some .int, 0, 0)
def tX5_move : TrD := (yX5_move, cX5_move, 3, none, 0, 0)
def tX5_removeAt : TrD := (yX5_removeAt, cX5_removeAt, 3, none, 1, 22)
def tX6_init : TrD := (yX6_init, cX6_init, 1, none, 2, 32)
def tX6_putIn : TrD := (yX6_putIn, cX6_putIn, 3, none, 1, 20)
def tX6_copyFrom : TrD := (yX6_copyFrom, cX6_copyFrom, 2, none, 2, 81)
def tX6_sectorUnderArm : TrD := (yX6_sectorUnderArm, cX6_sectorUnderArm, 1, some .int, 0, 0)
def tX6_passTicks : TrD := (yX6_passTicks, cX6_passTicks, 3, none, 4, 93)
def tX6_passUntilEmpty : TrD := (yX6_passUntilEmpty, cX6_passUntilEmpty, 2, some .int, 4, 93)
def tX6_beginTick : TrD := (yX6_beginTick, cX6_beginTick, 3, none, 3, 71)
def tX6_endTick : TrD := (yX6_endTick, cX6_endTick, 1, none, 2, 44)
def tX6_lowest : TrD := (yX6_lowest, cX6_lowest, 7, some .int, 2, 45)
def tX6_rankOf : TrD := (yX6_rankOf, cX6_rankOf, 5, some .int, 1, 21)
def tX6_start : TrD := (yX6_start, cX6_start, 2, none, 1, 20)
def tX6_moveOn : TrD := (yX6_moveOn, cX6_moveOn, 2, none, 1, 21)
def tX6_readUnderArm : TrD := (yX6_readUnderArm, cX6_readUnderArm, 5, none, 1, 26)
def tX6_giveUp : TrD := (yX6_giveUp, cX6_giveUp, 3, none, 1, 22)
def tX7_init : TrD := (yX7_init, cX7_init, 1, none, 1, 12)
def tX7_reset : TrD := (yX7_reset, cX7_reset, 1, none, 0, 0)
def tX7_copyFrom : TrD := (yX7_copyFrom, cX7_copyFrom, 2, none, 0, 0)
def tX9_init : TrD := (yX9_init, cX9_init, 2, none, 3, 52)
def tX9_plate : TrD := (yX9_plate, cX9_plate, 4, some .int, 6, 122)
def tX9_request : TrD := (yX9_request, cX9_request, 4, some .int, 6, 122)
def tX9_cancel : TrD := (yX9_cancel, cX9_cancel, 4, some .int, 6, 122)
def tX9_set : TrD := (yX9_set, cX9_set, 4, some .int, 6, 122)
def tX9_pass : TrD := (yX9_pass, cX9_pass, 3, some .int, 6, 122)
def tX9_finish : TrD := (yX9_finish, cX9_finish, 2, some .int, 6, 122)
def tX9_requestOf : TrD := (yX9_requestOf, cX9_requestOf, 4, some .int, 6, 81)
def tX9_requestAt : TrD := (yX9_requestAt, cX9_requestAt, 2, some .int, 6, 81)
def tX9_logged : TrD := (yX9_logged, cX9_logged, 3, some .int, 6, 81)
def tX9_arm : TrD := (yX9_arm, cX9_arm, 2, some .int, 6, 81)
def tX9_whole : TrD := (yX9_whole, cX9_whole, 2, some .int, 6, 81)
def tX9_plateFits : TrD := (yX9_plateFits, cX9_plateFits, 2, some .boolean, 0, 0)
def tX9_requestFits : TrD := (yX9_requestFits, cX9_requestFits, 4, some .boolean, 0, 0)
def tX9_settingFits : TrD := (yX9_settingFits, cX9_settingFits, 2, some .boolean, 0, 0)
def tX9_ticksFit : TrD := (yX9_ticksFit, cX9_ticksFit, 1, some .boolean, 0, 0)
def tX9_timeIsLeft : TrD := (yX9_timeIsLeft, cX9_timeIsLeft, 2, some .boolean, 0, 0)
def tX9_requestValue : TrD := (yX9_requestValue, cX9_requestValue, 4, some .int, 1, 21)
def tX9_save : TrD := (yX9_save, cX9_save, 1, none, 3, 102)
def tX9_dropOldest : TrD := (yX9_dropOldest, cX9_dropOldest, 3, none, 0, 0)
theorem thf_48 : Bundle.fit "java/lang/IllegalArgumentException" = true ∧ (∀ w ∈ (vx_at0 "PlateArm" 48 "java/lang/IllegalArgumentException" ["java/lang/RuntimeException", "java/lang/Exception"]).filter goodWord, w ∈ WG) ∧ (∀ w ∈ (vx_at0 "PlateArm" 48 "java/lang/IllegalArgumentException" ["java/lang/RuntimeException", "java/lang/Exception"]).filter (fun w => !goodWord w), w ∈ Cond.castable "java/lang/IllegalArgumentException" "java/lang/IllegalArgumentException" :: EWd.map Cond.declares) ∧ ("java/lang/IllegalArgumentException", "java/lang/IllegalArgumentException") ∈ EWc ∧ (∀ w ∈ Cond.classLink "PlateArm" 46 "java/lang/IllegalArgumentException" :: Cond.initialized "java/lang/IllegalArgumentException" :: (vx_at0 "PlateArm" 48 "java/lang/IllegalArgumentException" ["java/lang/RuntimeException", "java/lang/Exception"]), vx_ot w = true) := by
  refine ⟨by decide +kernel, fun w hw => List.mem_filter.mpr ⟨?_, (List.mem_filter.mp hw).2⟩, by decide +kernel, by decide +kernel, by decide +kernel⟩
  revert w
  decide +kernel
theorem thf_76 : Bundle.fit "java/lang/IllegalStateException" = true ∧ (∀ w ∈ (vx_at0 "PlateArm" 76 "java/lang/IllegalStateException" ["java/lang/RuntimeException", "java/lang/Exception"]).filter goodWord, w ∈ WG) ∧ (∀ w ∈ (vx_at0 "PlateArm" 76 "java/lang/IllegalStateException" ["java/lang/RuntimeException", "java/lang/Exception"]).filter (fun w => !goodWord w), w ∈ Cond.castable "java/lang/IllegalStateException" "java/lang/IllegalStateException" :: EWd.map Cond.declares) ∧ ("java/lang/IllegalStateException", "java/lang/IllegalStateException") ∈ EWc ∧ (∀ w ∈ Cond.classLink "PlateArm" 74 "java/lang/IllegalStateException" :: Cond.initialized "java/lang/IllegalStateException" :: (vx_at0 "PlateArm" 76 "java/lang/IllegalStateException" ["java/lang/RuntimeException", "java/lang/Exception"]), vx_ot w = true) := by
  refine ⟨by decide +kernel, fun w hw => List.mem_filter.mpr ⟨?_, (List.mem_filter.mp hw).2⟩, by decide +kernel, by decide +kernel, by decide +kernel⟩
  revert w
  decide +kernel
theorem thf_90 : Bundle.fit "java/lang/IndexOutOfBoundsException" = true ∧ (∀ w ∈ (vx_at0 "PlateArm" 90 "java/lang/IndexOutOfBoundsException" ["java/lang/RuntimeException", "java/lang/Exception"]).filter goodWord, w ∈ WG) ∧ (∀ w ∈ (vx_at0 "PlateArm" 90 "java/lang/IndexOutOfBoundsException" ["java/lang/RuntimeException", "java/lang/Exception"]).filter (fun w => !goodWord w), w ∈ Cond.castable "java/lang/IndexOutOfBoundsException" "java/lang/IndexOutOfBoundsException" :: EWd.map Cond.declares) ∧ ("java/lang/IndexOutOfBoundsException", "java/lang/IndexOutOfBoundsException") ∈ EWc ∧ (∀ w ∈ Cond.classLink "PlateArm" 88 "java/lang/IndexOutOfBoundsException" :: Cond.initialized "java/lang/IndexOutOfBoundsException" :: (vx_at0 "PlateArm" 90 "java/lang/IndexOutOfBoundsException" ["java/lang/RuntimeException", "java/lang/Exception"]), vx_ot w = true) := by
  refine ⟨by decide +kernel, fun w hw => List.mem_filter.mpr ⟨?_, (List.mem_filter.mp hw).2⟩, by decide +kernel, by decide +kernel, by decide +kernel⟩
  revert w
  decide +kernel
