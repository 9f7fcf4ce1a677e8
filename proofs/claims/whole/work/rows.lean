section
/-- a private method of a class that the tables say can be made, by its rows of tables_1 -/
def lw_okq (q : MethodName × Nat) : Prop := (q.1.cls ≠ "java/lang/invoke/MethodHandle" ∧ q.1.cls ≠ "java/lang/invoke/VarHandle") ∧ Cond.instantiable q.1.cls q.2 ∈ tables_1 ∧ Cond.privateMethod q.1 ∈ tables_1 ∧ Cond.instanceMethod q.1 ∈ tables_1
theorem lw_p0 : lw_okq (⟨"PlateArm", "forecastAll", "()V"⟩, 7) := ⟨⟨by decide +kernel, by decide +kernel⟩, List.mem_of_getElem? (i := 27) (by decide +kernel), List.mem_of_getElem? (i := 277) (by decide +kernel), List.mem_of_getElem? (i := 278) (by decide +kernel)⟩
theorem lw_p1 : lw_okq (⟨"PlateArm", "forecast", "(I)V"⟩, 7) := ⟨⟨by decide +kernel, by decide +kernel⟩, List.mem_of_getElem? (i := 27) (by decide +kernel), List.mem_of_getElem? (i := 281) (by decide +kernel), List.mem_of_getElem? (i := 282) (by decide +kernel)⟩
theorem lw_p2 : lw_okq (⟨"PlateArm$State", "beginTick", "()V"⟩, 8) := ⟨⟨by decide +kernel, by decide +kernel⟩, List.mem_of_getElem? (i := 35) (by decide +kernel), List.mem_of_getElem? (i := 314) (by decide +kernel), List.mem_of_getElem? (i := 315) (by decide +kernel)⟩
theorem lw_p3 : lw_okq (⟨"PlateArm$State", "lowest", "(II)I"⟩, 8) := ⟨⟨by decide +kernel, by decide +kernel⟩, List.mem_of_getElem? (i := 35) (by decide +kernel), List.mem_of_getElem? (i := 318) (by decide +kernel), List.mem_of_getElem? (i := 319) (by decide +kernel)⟩
theorem lw_p4 : lw_okq (⟨"PlateArm$State", "rankOf", "(III)I"⟩, 8) := ⟨⟨by decide +kernel, by decide +kernel⟩, List.mem_of_getElem? (i := 35) (by decide +kernel), List.mem_of_getElem? (i := 322) (by decide +kernel), List.mem_of_getElem? (i := 323) (by decide +kernel)⟩
theorem lw_p5 : lw_okq (⟨"PlateArm$State", "moveOn", "(I)V"⟩, 8) := ⟨⟨by decide +kernel, by decide +kernel⟩, List.mem_of_getElem? (i := 35) (by decide +kernel), List.mem_of_getElem? (i := 332) (by decide +kernel), List.mem_of_getElem? (i := 333) (by decide +kernel)⟩
theorem lw_p6 : lw_okq (⟨"PlateArm$State", "start", "(I)V"⟩, 8) := ⟨⟨by decide +kernel, by decide +kernel⟩, List.mem_of_getElem? (i := 35) (by decide +kernel), List.mem_of_getElem? (i := 344) (by decide +kernel), List.mem_of_getElem? (i := 345) (by decide +kernel)⟩
theorem lw_p7 : lw_okq (⟨"PlateArm$State", "readUnderArm", "()V"⟩, 8) := ⟨⟨by decide +kernel, by decide +kernel⟩, List.mem_of_getElem? (i := 35) (by decide +kernel), List.mem_of_getElem? (i := 348) (by decide +kernel), List.mem_of_getElem? (i := 349) (by decide +kernel)⟩
theorem lw_p8 : lw_okq (⟨"PlateArm$State", "endTick", "()V"⟩, 8) := ⟨⟨by decide +kernel, by decide +kernel⟩, List.mem_of_getElem? (i := 35) (by decide +kernel), List.mem_of_getElem? (i := 364) (by decide +kernel), List.mem_of_getElem? (i := 365) (by decide +kernel)⟩
theorem lw_p9 : lw_okq (⟨"PlateArm$State", "giveUp", "()V"⟩, 8) := ⟨⟨by decide +kernel, by decide +kernel⟩, List.mem_of_getElem? (i := 35) (by decide +kernel), List.mem_of_getElem? (i := 368) (by decide +kernel), List.mem_of_getElem? (i := 369) (by decide +kernel)⟩
theorem lw_p10 : lw_okq (⟨"PlateArm", "bestForecast", "()I"⟩, 7) := ⟨⟨by decide +kernel, by decide +kernel⟩, List.mem_of_getElem? (i := 27) (by decide +kernel), List.mem_of_getElem? (i := 379) (by decide +kernel), List.mem_of_getElem? (i := 380) (by decide +kernel)⟩
theorem lw_p11 : lw_okq (⟨"PlateArm$CommandScan", "takeInFront", "(II)I"⟩, 6) := ⟨⟨by decide +kernel, by decide +kernel⟩, List.mem_of_getElem? (i := 222) (by decide +kernel), List.mem_of_getElem? (i := 422) (by decide +kernel), List.mem_of_getElem? (i := 423) (by decide +kernel)⟩
theorem lw_p12 : lw_okq (⟨"PlateArm$CommandScan", "takeInWord", "(LPlateArm$CommandText;II)I"⟩, 6) := ⟨⟨by decide +kernel, by decide +kernel⟩, List.mem_of_getElem? (i := 222) (by decide +kernel), List.mem_of_getElem? (i := 429) (by decide +kernel), List.mem_of_getElem? (i := 430) (by decide +kernel)⟩
theorem lw_p13 : lw_okq (⟨"PlateArm$CommandScan", "takeInGap", "(II)I"⟩, 6) := ⟨⟨by decide +kernel, by decide +kernel⟩, List.mem_of_getElem? (i := 222) (by decide +kernel), List.mem_of_getElem? (i := 491) (by decide +kernel), List.mem_of_getElem? (i := 492) (by decide +kernel)⟩
theorem lw_p14 : lw_okq (⟨"PlateArm$CommandScan", "takeBehindNumber", "(II)I"⟩, 6) := ⟨⟨by decide +kernel, by decide +kernel⟩, List.mem_of_getElem? (i := 222) (by decide +kernel), List.mem_of_getElem? (i := 498) (by decide +kernel), List.mem_of_getElem? (i := 499) (by decide +kernel)⟩
theorem lw_p15 : lw_okq (⟨"PlateArm$CommandScan", "takeInNumber", "(II)I"⟩, 6) := ⟨⟨by decide +kernel, by decide +kernel⟩, List.mem_of_getElem? (i := 222) (by decide +kernel), List.mem_of_getElem? (i := 502) (by decide +kernel), List.mem_of_getElem? (i := 503) (by decide +kernel)⟩
def lw_privs_1 : List (MethodName × Nat) := [(⟨"PlateArm", "forecastAll", "()V"⟩, 7), (⟨"PlateArm", "forecast", "(I)V"⟩, 7), (⟨"PlateArm$State", "beginTick", "()V"⟩, 8), (⟨"PlateArm$State", "lowest", "(II)I"⟩, 8), (⟨"PlateArm$State", "rankOf", "(III)I"⟩, 8), (⟨"PlateArm$State", "moveOn", "(I)V"⟩, 8), (⟨"PlateArm$State", "start", "(I)V"⟩, 8), (⟨"PlateArm$State", "readUnderArm", "()V"⟩, 8), (⟨"PlateArm$State", "endTick", "()V"⟩, 8), (⟨"PlateArm$State", "giveUp", "()V"⟩, 8), (⟨"PlateArm", "bestForecast", "()I"⟩, 7), (⟨"PlateArm$CommandScan", "takeInFront", "(II)I"⟩, 6), (⟨"PlateArm$CommandScan", "takeInWord", "(LPlateArm$CommandText;II)I"⟩, 6), (⟨"PlateArm$CommandScan", "takeInGap", "(II)I"⟩, 6), (⟨"PlateArm$CommandScan", "takeBehindNumber", "(II)I"⟩, 6), (⟨"PlateArm$CommandScan", "takeInNumber", "(II)I"⟩, 6)]
theorem lw_r1 : ∀ q ∈ lw_privs_1, lw_okq q := List.forall_mem_cons.mpr ⟨lw_p0, List.forall_mem_cons.mpr ⟨lw_p1, List.forall_mem_cons.mpr ⟨lw_p2, List.forall_mem_cons.mpr ⟨lw_p3, List.forall_mem_cons.mpr ⟨lw_p4, List.forall_mem_cons.mpr ⟨lw_p5, List.forall_mem_cons.mpr ⟨lw_p6, List.forall_mem_cons.mpr ⟨lw_p7, List.forall_mem_cons.mpr ⟨lw_p8, List.forall_mem_cons.mpr ⟨lw_p9, List.forall_mem_cons.mpr ⟨lw_p10, List.forall_mem_cons.mpr ⟨lw_p11, List.forall_mem_cons.mpr ⟨lw_p12, List.forall_mem_cons.mpr ⟨lw_p13, List.forall_mem_cons.mpr ⟨lw_p14, List.forall_mem_cons.mpr ⟨lw_p15, fun _ h => absurd h List.not_mem_nil⟩⟩⟩⟩⟩⟩⟩⟩⟩⟩⟩⟩⟩⟩⟩⟩
theorem lw_p16 : lw_okq (⟨"PlateArm", "save", "()V"⟩, 7) := ⟨⟨by decide +kernel, by decide +kernel⟩, List.mem_of_getElem? (i := 27) (by decide +kernel), List.mem_of_getElem? (i := 506) (by decide +kernel), List.mem_of_getElem? (i := 507) (by decide +kernel)⟩
theorem lw_p17 : lw_okq (⟨"PlateArm", "dropOldest", "()V"⟩, 7) := ⟨⟨by decide +kernel, by decide +kernel⟩, List.mem_of_getElem? (i := 27) (by decide +kernel), List.mem_of_getElem? (i := 510) (by decide +kernel), List.mem_of_getElem? (i := 511) (by decide +kernel)⟩
theorem lw_p18 : lw_okq (⟨"PlateArm", "carryOut", "(LPlateArm$Word;[I)Z"⟩, 7) := ⟨⟨by decide +kernel, by decide +kernel⟩, List.mem_of_getElem? (i := 27) (by decide +kernel), List.mem_of_getElem? (i := 517) (by decide +kernel), List.mem_of_getElem? (i := 518) (by decide +kernel)⟩
theorem lw_p19 : lw_okq (⟨"PlateArm", "carryOutPlate", "(II)Z"⟩, 7) := ⟨⟨by decide +kernel, by decide +kernel⟩, List.mem_of_getElem? (i := 27) (by decide +kernel), List.mem_of_getElem? (i := 529) (by decide +kernel), List.mem_of_getElem? (i := 530) (by decide +kernel)⟩
theorem lw_p20 : lw_okq (⟨"PlateArm", "carryOutRead", "(III)Z"⟩, 7) := ⟨⟨by decide +kernel, by decide +kernel⟩, List.mem_of_getElem? (i := 27) (by decide +kernel), List.mem_of_getElem? (i := 556) (by decide +kernel), List.mem_of_getElem? (i := 557) (by decide +kernel)⟩
theorem lw_p21 : lw_okq (⟨"PlateArm", "requestFits", "(III)Z"⟩, 7) := ⟨⟨by decide +kernel, by decide +kernel⟩, List.mem_of_getElem? (i := 27) (by decide +kernel), List.mem_of_getElem? (i := 560) (by decide +kernel), List.mem_of_getElem? (i := 561) (by decide +kernel)⟩
theorem lw_p22 : lw_okq (⟨"PlateArm", "carryOutCancel", "(I)Z"⟩, 7) := ⟨⟨by decide +kernel, by decide +kernel⟩, List.mem_of_getElem? (i := 27) (by decide +kernel), List.mem_of_getElem? (i := 573) (by decide +kernel), List.mem_of_getElem? (i := 574) (by decide +kernel)⟩
theorem lw_p23 : lw_okq (⟨"PlateArm", "carryOutSet", "(II)Z"⟩, 7) := ⟨⟨by decide +kernel, by decide +kernel⟩, List.mem_of_getElem? (i := 27) (by decide +kernel), List.mem_of_getElem? (i := 586) (by decide +kernel), List.mem_of_getElem? (i := 587) (by decide +kernel)⟩
theorem lw_p24 : lw_okq (⟨"PlateArm", "carryOutTicks", "(I)Z"⟩, 7) := ⟨⟨by decide +kernel, by decide +kernel⟩, List.mem_of_getElem? (i := 27) (by decide +kernel), List.mem_of_getElem? (i := 597) (by decide +kernel), List.mem_of_getElem? (i := 598) (by decide +kernel)⟩
theorem lw_p25 : lw_okq (⟨"PlateArm", "timeIsLeft", "(I)Z"⟩, 7) := ⟨⟨by decide +kernel, by decide +kernel⟩, List.mem_of_getElem? (i := 27) (by decide +kernel), List.mem_of_getElem? (i := 604) (by decide +kernel), List.mem_of_getElem? (i := 605) (by decide +kernel)⟩
theorem lw_p26 : lw_okq (⟨"java/lang/Throwable", "fillInStackTrace", "(I)Ljava/lang/Throwable;"⟩, 6) := ⟨⟨by decide +kernel, by decide +kernel⟩, List.mem_of_getElem? (i := 660) (by decide +kernel), List.mem_of_getElem? (i := 658) (by decide +kernel), List.mem_of_getElem? (i := 659) (by decide +kernel)⟩
theorem lw_p27 : lw_okq (⟨"PlateArm", "mixRequests", "(J)J"⟩, 7) := ⟨⟨by decide +kernel, by decide +kernel⟩, List.mem_of_getElem? (i := 27) (by decide +kernel), List.mem_of_getElem? (i := 690) (by decide +kernel), List.mem_of_getElem? (i := 691) (by decide +kernel)⟩
theorem lw_p28 : lw_okq (⟨"PlateArm", "requestValue", "(II)I"⟩, 7) := ⟨⟨by decide +kernel, by decide +kernel⟩, List.mem_of_getElem? (i := 27) (by decide +kernel), List.mem_of_getElem? (i := 694) (by decide +kernel), List.mem_of_getElem? (i := 695) (by decide +kernel)⟩
theorem lw_p29 : lw_okq (⟨"PlateArm", "mixLog", "(J)J"⟩, 7) := ⟨⟨by decide +kernel, by decide +kernel⟩, List.mem_of_getElem? (i := 27) (by decide +kernel), List.mem_of_getElem? (i := 699) (by decide +kernel), List.mem_of_getElem? (i := 700) (by decide +kernel)⟩
theorem lw_p30 : lw_okq (⟨"PlateArm", "mixForecasts", "(J)J"⟩, 7) := ⟨⟨by decide +kernel, by decide +kernel⟩, List.mem_of_getElem? (i := 27) (by decide +kernel), List.mem_of_getElem? (i := 712) (by decide +kernel), List.mem_of_getElem? (i := 713) (by decide +kernel)⟩
theorem lw_p31 : lw_okq (⟨"PlateArmModel", "throwsAt", "(I)Z"⟩, 14) := ⟨⟨by decide +kernel, by decide +kernel⟩, List.mem_of_getElem? (i := 898) (by decide +kernel), List.mem_of_getElem? (i := 958) (by decide +kernel), List.mem_of_getElem? (i := 959) (by decide +kernel)⟩
def lw_privs_2 : List (MethodName × Nat) := [(⟨"PlateArm", "save", "()V"⟩, 7), (⟨"PlateArm", "dropOldest", "()V"⟩, 7), (⟨"PlateArm", "carryOut", "(LPlateArm$Word;[I)Z"⟩, 7), (⟨"PlateArm", "carryOutPlate", "(II)Z"⟩, 7), (⟨"PlateArm", "carryOutRead", "(III)Z"⟩, 7), (⟨"PlateArm", "requestFits", "(III)Z"⟩, 7), (⟨"PlateArm", "carryOutCancel", "(I)Z"⟩, 7), (⟨"PlateArm", "carryOutSet", "(II)Z"⟩, 7), (⟨"PlateArm", "carryOutTicks", "(I)Z"⟩, 7), (⟨"PlateArm", "timeIsLeft", "(I)Z"⟩, 7), (⟨"java/lang/Throwable", "fillInStackTrace", "(I)Ljava/lang/Throwable;"⟩, 6), (⟨"PlateArm", "mixRequests", "(J)J"⟩, 7), (⟨"PlateArm", "requestValue", "(II)I"⟩, 7), (⟨"PlateArm", "mixLog", "(J)J"⟩, 7), (⟨"PlateArm", "mixForecasts", "(J)J"⟩, 7), (⟨"PlateArmModel", "throwsAt", "(I)Z"⟩, 14)]
theorem lw_r2 : ∀ q ∈ lw_privs_2, lw_okq q := List.forall_mem_cons.mpr ⟨lw_p16, List.forall_mem_cons.mpr ⟨lw_p17, List.forall_mem_cons.mpr ⟨lw_p18, List.forall_mem_cons.mpr ⟨lw_p19, List.forall_mem_cons.mpr ⟨lw_p20, List.forall_mem_cons.mpr ⟨lw_p21, List.forall_mem_cons.mpr ⟨lw_p22, List.forall_mem_cons.mpr ⟨lw_p23, List.forall_mem_cons.mpr ⟨lw_p24, List.forall_mem_cons.mpr ⟨lw_p25, List.forall_mem_cons.mpr ⟨lw_p26, List.forall_mem_cons.mpr ⟨lw_p27, List.forall_mem_cons.mpr ⟨lw_p28, List.forall_mem_cons.mpr ⟨lw_p29, List.forall_mem_cons.mpr ⟨lw_p30, List.forall_mem_cons.mpr ⟨lw_p31, fun _ h => absurd h List.not_mem_nil⟩⟩⟩⟩⟩⟩⟩⟩⟩⟩⟩⟩⟩⟩⟩⟩
theorem lw_p32 : lw_okq (⟨"PlateArmModel", "saves", "()V"⟩, 14) := ⟨⟨by decide +kernel, by decide +kernel⟩, List.mem_of_getElem? (i := 898) (by decide +kernel), List.mem_of_getElem? (i := 962) (by decide +kernel), List.mem_of_getElem? (i := 963) (by decide +kernel)⟩
theorem lw_p33 : lw_okq (⟨"PlateArmModel", "placeOf", "(I)I"⟩, 14) := ⟨⟨by decide +kernel, by decide +kernel⟩, List.mem_of_getElem? (i := 898) (by decide +kernel), List.mem_of_getElem? (i := 974) (by decide +kernel), List.mem_of_getElem? (i := 975) (by decide +kernel)⟩
theorem lw_p34 : lw_okq (⟨"PlateArmModel", "of", "(II)I"⟩, 14) := ⟨⟨by decide +kernel, by decide +kernel⟩, List.mem_of_getElem? (i := 898) (by decide +kernel), List.mem_of_getElem? (i := 978) (by decide +kernel), List.mem_of_getElem? (i := 979) (by decide +kernel)⟩
theorem lw_p35 : lw_okq (⟨"PlateArmModel", "takes", "(I)V"⟩, 14) := ⟨⟨by decide +kernel, by decide +kernel⟩, List.mem_of_getElem? (i := 898) (by decide +kernel), List.mem_of_getElem? (i := 982) (by decide +kernel), List.mem_of_getElem? (i := 983) (by decide +kernel)⟩
theorem lw_p36 : lw_okq (⟨"PlateArmModel", "ticks", "()V"⟩, 14) := ⟨⟨by decide +kernel, by decide +kernel⟩, List.mem_of_getElem? (i := 898) (by decide +kernel), List.mem_of_getElem? (i := 994) (by decide +kernel), List.mem_of_getElem? (i := 995) (by decide +kernel)⟩
theorem lw_p37 : lw_okq (⟨"PlateArmModel", "targetBy", "(I)I"⟩, 14) := ⟨⟨by decide +kernel, by decide +kernel⟩, List.mem_of_getElem? (i := 898) (by decide +kernel), List.mem_of_getElem? (i := 998) (by decide +kernel), List.mem_of_getElem? (i := 999) (by decide +kernel)⟩
theorem lw_p38 : lw_okq (⟨"PlateArmModel", "sweeping", "()I"⟩, 14) := ⟨⟨by decide +kernel, by decide +kernel⟩, List.mem_of_getElem? (i := 898) (by decide +kernel), List.mem_of_getElem? (i := 1002) (by decide +kernel), List.mem_of_getElem? (i := 1003) (by decide +kernel)⟩
theorem lw_p39 : lw_okq (⟨"PlateArmModel", "nearest", "(I)I"⟩, 14) := ⟨⟨by decide +kernel, by decide +kernel⟩, List.mem_of_getElem? (i := 898) (by decide +kernel), List.mem_of_getElem? (i := 1006) (by decide +kernel), List.mem_of_getElem? (i := 1007) (by decide +kernel)⟩
theorem lw_p40 : lw_okq (⟨"PlateArmModel", "isAhead", "(II)Z"⟩, 14) := ⟨⟨by decide +kernel, by decide +kernel⟩, List.mem_of_getElem? (i := 898) (by decide +kernel), List.mem_of_getElem? (i := 1010) (by decide +kernel), List.mem_of_getElem? (i := 1011) (by decide +kernel)⟩
theorem lw_p41 : lw_okq (⟨"PlateArmModel", "far", "(I)I"⟩, 14) := ⟨⟨by decide +kernel, by decide +kernel⟩, List.mem_of_getElem? (i := 898) (by decide +kernel), List.mem_of_getElem? (i := 1014) (by decide +kernel), List.mem_of_getElem? (i := 1015) (by decide +kernel)⟩
theorem lw_p42 : lw_okq (⟨"PlateArmModel", "earliest", "()I"⟩, 14) := ⟨⟨by decide +kernel, by decide +kernel⟩, List.mem_of_getElem? (i := 898) (by decide +kernel), List.mem_of_getElem? (i := 1021) (by decide +kernel), List.mem_of_getElem? (i := 1022) (by decide +kernel)⟩
theorem lw_p43 : lw_okq (⟨"PlateArmModel", "moves", "(I)V"⟩, 14) := ⟨⟨by decide +kernel, by decide +kernel⟩, List.mem_of_getElem? (i := 898) (by decide +kernel), List.mem_of_getElem? (i := 1025) (by decide +kernel), List.mem_of_getElem? (i := 1026) (by decide +kernel)⟩
theorem lw_p44 : lw_okq (⟨"PlateArmModel", "steps", "(II)V"⟩, 14) := ⟨⟨by decide +kernel, by decide +kernel⟩, List.mem_of_getElem? (i := 898) (by decide +kernel), List.mem_of_getElem? (i := 1029) (by decide +kernel), List.mem_of_getElem? (i := 1030) (by decide +kernel)⟩
theorem lw_p45 : lw_okq (⟨"PlateArmModel", "reads", "()V"⟩, 14) := ⟨⟨by decide +kernel, by decide +kernel⟩, List.mem_of_getElem? (i := 898) (by decide +kernel), List.mem_of_getElem? (i := 1033) (by decide +kernel), List.mem_of_getElem? (i := 1034) (by decide +kernel)⟩
theorem lw_p46 : lw_okq (⟨"PlateArmModel", "logs", "(I)V"⟩, 14) := ⟨⟨by decide +kernel, by decide +kernel⟩, List.mem_of_getElem? (i := 898) (by decide +kernel), List.mem_of_getElem? (i := 1037) (by decide +kernel), List.mem_of_getElem? (i := 1038) (by decide +kernel)⟩
theorem lw_p47 : lw_okq (⟨"PlateArmModel", "givesUp", "()V"⟩, 14) := ⟨⟨by decide +kernel, by decide +kernel⟩, List.mem_of_getElem? (i := 898) (by decide +kernel), List.mem_of_getElem? (i := 1041) (by decide +kernel), List.mem_of_getElem? (i := 1042) (by decide +kernel)⟩
def lw_privs_3 : List (MethodName × Nat) := [(⟨"PlateArmModel", "saves", "()V"⟩, 14), (⟨"PlateArmModel", "placeOf", "(I)I"⟩, 14), (⟨"PlateArmModel", "of", "(II)I"⟩, 14), (⟨"PlateArmModel", "takes", "(I)V"⟩, 14), (⟨"PlateArmModel", "ticks", "()V"⟩, 14), (⟨"PlateArmModel", "targetBy", "(I)I"⟩, 14), (⟨"PlateArmModel", "sweeping", "()I"⟩, 14), (⟨"PlateArmModel", "nearest", "(I)I"⟩, 14), (⟨"PlateArmModel", "isAhead", "(II)Z"⟩, 14), (⟨"PlateArmModel", "far", "(I)I"⟩, 14), (⟨"PlateArmModel", "earliest", "()I"⟩, 14), (⟨"PlateArmModel", "moves", "(I)V"⟩, 14), (⟨"PlateArmModel", "steps", "(II)V"⟩, 14), (⟨"PlateArmModel", "reads", "()V"⟩, 14), (⟨"PlateArmModel", "logs", "(I)V"⟩, 14), (⟨"PlateArmModel", "givesUp", "()V"⟩, 14)]
theorem lw_r3 : ∀ q ∈ lw_privs_3, lw_okq q := List.forall_mem_cons.mpr ⟨lw_p32, List.forall_mem_cons.mpr ⟨lw_p33, List.forall_mem_cons.mpr ⟨lw_p34, List.forall_mem_cons.mpr ⟨lw_p35, List.forall_mem_cons.mpr ⟨lw_p36, List.forall_mem_cons.mpr ⟨lw_p37, List.forall_mem_cons.mpr ⟨lw_p38, List.forall_mem_cons.mpr ⟨lw_p39, List.forall_mem_cons.mpr ⟨lw_p40, List.forall_mem_cons.mpr ⟨lw_p41, List.forall_mem_cons.mpr ⟨lw_p42, List.forall_mem_cons.mpr ⟨lw_p43, List.forall_mem_cons.mpr ⟨lw_p44, List.forall_mem_cons.mpr ⟨lw_p45, List.forall_mem_cons.mpr ⟨lw_p46, List.forall_mem_cons.mpr ⟨lw_p47, fun _ h => absurd h List.not_mem_nil⟩⟩⟩⟩⟩⟩⟩⟩⟩⟩⟩⟩⟩⟩⟩⟩
theorem lw_p48 : lw_okq (⟨"PlateArmModel", "holds", "()V"⟩, 14) := ⟨⟨by decide +kernel, by decide +kernel⟩, List.mem_of_getElem? (i := 898) (by decide +kernel), List.mem_of_getElem? (i := 1049) (by decide +kernel), List.mem_of_getElem? (i := 1050) (by decide +kernel)⟩
theorem lw_p49 : lw_okq (⟨"PlateArmModel", "finishes", "()I"⟩, 14) := ⟨⟨by decide +kernel, by decide +kernel⟩, List.mem_of_getElem? (i := 898) (by decide +kernel), List.mem_of_getElem? (i := 1053) (by decide +kernel), List.mem_of_getElem? (i := 1054) (by decide +kernel)⟩
theorem lw_p50 : lw_okq (⟨"PlateArmModel", "lets", "()V"⟩, 14) := ⟨⟨by decide +kernel, by decide +kernel⟩, List.mem_of_getElem? (i := 898) (by decide +kernel), List.mem_of_getElem? (i := 1057) (by decide +kernel), List.mem_of_getElem? (i := 1058) (by decide +kernel)⟩
theorem lw_p51 : lw_okq (⟨"PlateArmModel", "told", "(II)I"⟩, 14) := ⟨⟨by decide +kernel, by decide +kernel⟩, List.mem_of_getElem? (i := 898) (by decide +kernel), List.mem_of_getElem? (i := 1065) (by decide +kernel), List.mem_of_getElem? (i := 1066) (by decide +kernel)⟩
theorem lw_p52 : lw_okq (⟨"PlateArmModel", "logOf", "(II)I"⟩, 14) := ⟨⟨by decide +kernel, by decide +kernel⟩, List.mem_of_getElem? (i := 898) (by decide +kernel), List.mem_of_getElem? (i := 1077) (by decide +kernel), List.mem_of_getElem? (i := 1078) (by decide +kernel)⟩
theorem lw_p53 : lw_okq (⟨"PlateArmModel", "armOf", "(I)I"⟩, 14) := ⟨⟨by decide +kernel, by decide +kernel⟩, List.mem_of_getElem? (i := 898) (by decide +kernel), List.mem_of_getElem? (i := 1085) (by decide +kernel), List.mem_of_getElem? (i := 1086) (by decide +kernel)⟩
theorem lw_p54 : lw_okq (⟨"PlateArmModel", "wholeOf", "(I)I"⟩, 14) := ⟨⟨by decide +kernel, by decide +kernel⟩, List.mem_of_getElem? (i := 898) (by decide +kernel), List.mem_of_getElem? (i := 1093) (by decide +kernel), List.mem_of_getElem? (i := 1094) (by decide +kernel)⟩
theorem lw_p55 : lw_okq (⟨"PlateArmModel", "numberOf", "(I)I"⟩, 14) := ⟨⟨by decide +kernel, by decide +kernel⟩, List.mem_of_getElem? (i := 898) (by decide +kernel), List.mem_of_getElem? (i := 1101) (by decide +kernel), List.mem_of_getElem? (i := 1102) (by decide +kernel)⟩
theorem lw_p56 : lw_okq (⟨"PlateArmModel", "valueBy", "(II)I"⟩, 14) := ⟨⟨by decide +kernel, by decide +kernel⟩, List.mem_of_getElem? (i := 898) (by decide +kernel), List.mem_of_getElem? (i := 1113) (by decide +kernel), List.mem_of_getElem? (i := 1114) (by decide +kernel)⟩
theorem lw_p57 : lw_okq (⟨"PlateArmModel", "best", "()I"⟩, 14) := ⟨⟨by decide +kernel, by decide +kernel⟩, List.mem_of_getElem? (i := 898) (by decide +kernel), List.mem_of_getElem? (i := 1121) (by decide +kernel), List.mem_of_getElem? (i := 1122) (by decide +kernel)⟩
theorem lw_p58 : lw_okq (⟨"PlateArmModel", "heatBehind", "(I)I"⟩, 14) := ⟨⟨by decide +kernel, by decide +kernel⟩, List.mem_of_getElem? (i := 898) (by decide +kernel), List.mem_of_getElem? (i := 1129) (by decide +kernel), List.mem_of_getElem? (i := 1130) (by decide +kernel)⟩
theorem lw_p59 : lw_okq (⟨"PlateArmModel", "widestNow", "()I"⟩, 14) := ⟨⟨by decide +kernel, by decide +kernel⟩, List.mem_of_getElem? (i := 898) (by decide +kernel), List.mem_of_getElem? (i := 1137) (by decide +kernel), List.mem_of_getElem? (i := 1138) (by decide +kernel)⟩
theorem lw_p60 : lw_okq (⟨"PlateArmModel", "fault", "()I"⟩, 14) := ⟨⟨by decide +kernel, by decide +kernel⟩, List.mem_of_getElem? (i := 898) (by decide +kernel), List.mem_of_getElem? (i := 1157) (by decide +kernel), List.mem_of_getElem? (i := 1158) (by decide +kernel)⟩
theorem lw_p61 : lw_okq (⟨"PlateArmModel", "skips", "()V"⟩, 14) := ⟨⟨by decide +kernel, by decide +kernel⟩, List.mem_of_getElem? (i := 898) (by decide +kernel), List.mem_of_getElem? (i := 1161) (by decide +kernel), List.mem_of_getElem? (i := 1162) (by decide +kernel)⟩
theorem lw_p62 : lw_okq (⟨"PlateArmModel", "isAt", "(II)Z"⟩, 14) := ⟨⟨by decide +kernel, by decide +kernel⟩, List.mem_of_getElem? (i := 898) (by decide +kernel), List.mem_of_getElem? (i := 1165) (by decide +kernel), List.mem_of_getElem? (i := 1166) (by decide +kernel)⟩
theorem lw_p63 : lw_okq (⟨"PlateArmModel", "readsOne", "()Z"⟩, 14) := ⟨⟨by decide +kernel, by decide +kernel⟩, List.mem_of_getElem? (i := 898) (by decide +kernel), List.mem_of_getElem? (i := 1169) (by decide +kernel), List.mem_of_getElem? (i := 1170) (by decide +kernel)⟩
def lw_privs_4 : List (MethodName × Nat) := [(⟨"PlateArmModel", "holds", "()V"⟩, 14), (⟨"PlateArmModel", "finishes", "()I"⟩, 14), (⟨"PlateArmModel", "lets", "()V"⟩, 14), (⟨"PlateArmModel", "told", "(II)I"⟩, 14), (⟨"PlateArmModel", "logOf", "(II)I"⟩, 14), (⟨"PlateArmModel", "armOf", "(I)I"⟩, 14), (⟨"PlateArmModel", "wholeOf", "(I)I"⟩, 14), (⟨"PlateArmModel", "numberOf", "(I)I"⟩, 14), (⟨"PlateArmModel", "valueBy", "(II)I"⟩, 14), (⟨"PlateArmModel", "best", "()I"⟩, 14), (⟨"PlateArmModel", "heatBehind", "(I)I"⟩, 14), (⟨"PlateArmModel", "widestNow", "()I"⟩, 14), (⟨"PlateArmModel", "fault", "()I"⟩, 14), (⟨"PlateArmModel", "skips", "()V"⟩, 14), (⟨"PlateArmModel", "isAt", "(II)Z"⟩, 14), (⟨"PlateArmModel", "readsOne", "()Z"⟩, 14)]
theorem lw_r4 : ∀ q ∈ lw_privs_4, lw_okq q := List.forall_mem_cons.mpr ⟨lw_p48, List.forall_mem_cons.mpr ⟨lw_p49, List.forall_mem_cons.mpr ⟨lw_p50, List.forall_mem_cons.mpr ⟨lw_p51, List.forall_mem_cons.mpr ⟨lw_p52, List.forall_mem_cons.mpr ⟨lw_p53, List.forall_mem_cons.mpr ⟨lw_p54, List.forall_mem_cons.mpr ⟨lw_p55, List.forall_mem_cons.mpr ⟨lw_p56, List.forall_mem_cons.mpr ⟨lw_p57, List.forall_mem_cons.mpr ⟨lw_p58, List.forall_mem_cons.mpr ⟨lw_p59, List.forall_mem_cons.mpr ⟨lw_p60, List.forall_mem_cons.mpr ⟨lw_p61, List.forall_mem_cons.mpr ⟨lw_p62, List.forall_mem_cons.mpr ⟨lw_p63, fun _ h => absurd h List.not_mem_nil⟩⟩⟩⟩⟩⟩⟩⟩⟩⟩⟩⟩⟩⟩⟩⟩
theorem lw_p64 : lw_okq (⟨"PlateArmModel", "commandAt", "(I)I"⟩, 14) := ⟨⟨by decide +kernel, by decide +kernel⟩, List.mem_of_getElem? (i := 898) (by decide +kernel), List.mem_of_getElem? (i := 1173) (by decide +kernel), List.mem_of_getElem? (i := 1174) (by decide +kernel)⟩
theorem lw_p65 : lw_okq (⟨"PlateArmModel", "isWord", "(IIIIIII)Z"⟩, 14) := ⟨⟨by decide +kernel, by decide +kernel⟩, List.mem_of_getElem? (i := 898) (by decide +kernel), List.mem_of_getElem? (i := 1177) (by decide +kernel), List.mem_of_getElem? (i := 1178) (by decide +kernel)⟩
theorem lw_p66 : lw_okq (⟨"PlateArmModel", "number", "(I)Z"⟩, 14) := ⟨⟨by decide +kernel, by decide +kernel⟩, List.mem_of_getElem? (i := 898) (by decide +kernel), List.mem_of_getElem? (i := 1181) (by decide +kernel), List.mem_of_getElem? (i := 1182) (by decide +kernel)⟩
theorem lw_p67 : lw_okq (⟨"PlateArmModel", "does", "()V"⟩, 14) := ⟨⟨by decide +kernel, by decide +kernel⟩, List.mem_of_getElem? (i := 898) (by decide +kernel), List.mem_of_getElem? (i := 1185) (by decide +kernel), List.mem_of_getElem? (i := 1186) (by decide +kernel)⟩
theorem lw_p68 : lw_okq (⟨"PlateArmModel", "say", "(I)V"⟩, 14) := ⟨⟨by decide +kernel, by decide +kernel⟩, List.mem_of_getElem? (i := 898) (by decide +kernel), List.mem_of_getElem? (i := 1203) (by decide +kernel), List.mem_of_getElem? (i := 1204) (by decide +kernel)⟩
def lw_privs_5 : List (MethodName × Nat) := [(⟨"PlateArmModel", "commandAt", "(I)I"⟩, 14), (⟨"PlateArmModel", "isWord", "(IIIIIII)Z"⟩, 14), (⟨"PlateArmModel", "number", "(I)Z"⟩, 14), (⟨"PlateArmModel", "does", "()V"⟩, 14), (⟨"PlateArmModel", "say", "(I)V"⟩, 14)]
theorem lw_r5 : ∀ q ∈ lw_privs_5, lw_okq q := List.forall_mem_cons.mpr ⟨lw_p64, List.forall_mem_cons.mpr ⟨lw_p65, List.forall_mem_cons.mpr ⟨lw_p66, List.forall_mem_cons.mpr ⟨lw_p67, List.forall_mem_cons.mpr ⟨lw_p68, fun _ h => absurd h List.not_mem_nil⟩⟩⟩⟩⟩
def lw_privs : List (MethodName × Nat) := lw_privs_1 ++ (lw_privs_2 ++ (lw_privs_3 ++ (lw_privs_4 ++ (lw_privs_5))))
def lw_tbl : List Cond := k2_sels lw_privs ++ tables_1
theorem lw_privs_ok : ∀ q ∈ lw_privs, lw_okq q := by
  show ∀ q ∈ lw_privs_1 ++ (lw_privs_2 ++ (lw_privs_3 ++ (lw_privs_4 ++ (lw_privs_5)))), lw_okq q
  exact List.forall_mem_append.mpr ⟨lw_r1, List.forall_mem_append.mpr ⟨lw_r2, List.forall_mem_append.mpr ⟨lw_r3, List.forall_mem_append.mpr ⟨lw_r4, lw_r5⟩⟩⟩⟩
end
section
def va_AOA (ty : FieldType) (U : State) : Prop := (Cond.arrayOver (.array ty)).before #[] U = true
theorem va_AOA.use {ty : FieldType} {A : Array Value} {U : State} (h : va_AOA ty U) : (Cond.arrayOver (.array ty)).before A U = true := h
/-! ===== BEGIN words of one list among another's, by their places ===== -/
theorem goodIn_r {big : List Cond} (ws : List Cond) (ps : List Nat) (hp : ws = ps.filterMap (fun i => big[i]?)) (h : ws.all goodWord = true) : GoodIn big ws := by
  intro w hw
  have h1 := List.all_eq_true.mp h w hw
  rw [hp] at hw
  obtain ⟨i, -, hi⟩ := List.mem_filterMap.mp hw
  have hm : w ∈ big := by first | exact List.mem_of_getElem? hi | exact List.getElem?_mem hi
  exact ⟨hm, good_of_word h1⟩
theorem goodIn_app {big a b : List Cond} (ha : GoodIn big a) (hb : GoodIn big b) : GoodIn big (a ++ b) := fun w h => (List.mem_append.mp h).elim (ha w) (hb w)
theorem goodIn_ca {big a b : List Cond} {c : Cond} (ha : GoodIn big (c :: a)) (hb : GoodIn big b) : GoodIn big (c :: (a ++ b)) := fun w h => (List.mem_cons.mp h).elim (fun e => ha w (List.mem_cons.mpr (Or.inl e))) (fun h => (List.mem_append.mp h).elim (fun h => ha w (List.mem_cons.mpr (Or.inr h))) (hb w))
theorem goodIn_sub {big ws : List Cond} (hm : ∀ w ∈ ws, w ∈ big) (h : ws.all goodWord = true) : GoodIn big ws := fun w hw => ⟨hm w hw, good_of_word (List.all_eq_true.mp h w hw)⟩
/-! ===== END ===== -/

/-! ===== BEGIN new T[n][m]: the outer array a place, the inner ones among the pooled ===== -/
/-- f, but v at every address of l -/
def vr_up {α : Type} (f : Nat → α) (l : List Nat) (v : α) : Nat → α := fun a => if a ∈ l then v else f a
theorem vr_up_in {α : Type} {f : Nat → α} {l : List Nat} {v : α} {a : Nat} (h : a ∈ l) : vr_up f l v a = v := if_pos h
theorem vr_up_ne {α : Type} {f : Nat → α} {l : List Nat} {v : α} {a : Nat} (h : a ∉ l) : vr_up f l v a = f a := if_neg h
theorem vr_rows {L l : List Nat} {f : Nat → va_E} {e : va_E} (h : ∀ a, a ∈ l → a ∉ L) : va_pl L f ++ l.map (fun a => (a, e)) = va_pl (L ++ l) (vr_up f l e) := by
  unfold va_pl
  rw [List.map_append]
  congr 1
  · apply List.map_congr_left
    intro a ha
    rw [vr_up_ne (fun q => h a q ha)]
  · apply List.map_congr_left
    intro a ha
    rw [vr_up_in ha]
theorem vr_lay {X rows : va_W} {x : Nat × va_E} {pl : va_W} {D : va_G} {cl : List vw_C} {H : Heap} (hP : va_P D cl (((X ++ pl) ++ [x]) ++ rows) H) : va_P D cl ((X ++ [x]) ++ (pl ++ rows)) H := by
  rw [List.append_assoc (X ++ pl)] at hP
  have h := va_P.swap hP
  rw [← List.append_assoc X] at h
  have h2 := va_P.swap h
  rw [List.append_assoc (X ++ [x])] at h2
  exact h2
theorem vr_layD {X rows : va_W} {x : Nat × va_E} {pl : va_W} {A : Nat → Prop} (hD : va_D A (((X ++ pl) ++ [x]) ++ rows)) : va_D A ((X ++ [x]) ++ (pl ++ rows)) := by
  rw [List.append_assoc (X ++ pl)] at hD
  have h := va_D.swap hD
  rw [← List.append_assoc X] at h
  have h2 := va_D.swap h
  rw [List.append_assoc (X ++ [x])] at h2
  exact h2
theorem vr_outer (c : ClassId) (N h0 : Nat) : ∀ i : Nat, Jvm.Free.Multi.outerC c N h0 i = arrV c N (fun j => va_rf (if j < i then some (h0 + 1 + j) else none))
  | 0 => by
    show ({ cls := c, slots := Array.replicate N .null, vm := .none } : Cell) = _
    rw [arrV_new]
    refine congrArg (arrV c N) (funext fun j => ?_)
    simp [va_rf]
  | i + 1 => by
    show (Jvm.Free.Multi.outerC c N h0 i).setSlot i (.ref (h0 + 1 + i)) = _
    rw [vr_outer c N h0 i, arrV_store]
    refine congrArg (arrV c N) (funext fun j => ?_)
    by_cases e : j = i
    · subst e
      simp [updV, va_rf]
    · by_cases h : j < i
      · simp [updV, e, h, Nat.lt_succ_of_lt h]
      · simp [updV, e, h, show ¬ j < i + 1 by omega]
section VGM
variable {p : Program} {l : Launch} {e : Env} {R : Room} {s : State} {m : MethodId} {args : Array Value} {below : List Frame} {meth : Method} {c : Code} {H : Heap} {locs : List Loc} {cells slots : Nat} {Q : State → Prop}
variable {cc : ByteArray} {pc : Nat} {ls : Array Slot} {rest : List Value} {D : va_G} {cl : List vw_C} {A : Nat → Prop} {a : Nat} {tys : List (ClassId × FieldType)} {ws : va_W} {H0 : Heap}
theorem va_mna {X : va_W} {L : List Nat} {f : Nat → va_E} {cc : ByteArray} (hexec : p.tables.exec = Jvm.exec) (hb : c.code = cc) {own : String} {index : Nat} {ty : FieldType} {cy : ClassId} (hown : s.vm.findClass own = some m.cls) (hclink : (Cond.classLink own index ("[" ++ (FieldType.array ty).toString)).before args s = true) (hover : va_AOA ty s) (harr : (Cond.arrayClass ty).before args s = true) (hcy : s.vm.findClass (FieldType.array ty).toString = some cy)
    (hK : va_K D cl tys s) (hP : va_P D cl (X ++ va_pl L f) H) (hD : va_D A (X ++ va_pl L f)) (hS : va_S A H0 H locs) (hA : ∀ q, H0.size ≤ q → A q) {n k : Int32} {N' K' : Nat} {z : vp_A} (hn : ¬ n < 0) (hk : ¬ k < 0) (hN : n.toNatClampNeg = N') (hM : k.toNatClampNeg = K')
    (hb1 : N' * 4 ≤ 536870912) (hb2 : K' * componentBytes ty ≤ 536870912) (hb3 : K' ≤ 536870912) (hdf : fits ty (defaultValue ty) = true) (hdd : (defaultValue ty).isDefault = true) (hcells : cells + (1 + N') ≤ R.cells) (hslots : slots + (N' + N' * K') ≤ R.slots) (hz : ∀ c : ClassId, Jvm.Free.Multi.innerC c K' (defaultValue ty) = vp_cell c z) (hdg : decode cc pc = .ok (.multianewarray index 2, 4))
    (kk : ∀ (q : Nat) (r : Nat → Nat) (cA : ClassId) (H1 : Heap), (∀ i j : Nat, i < N' → j < N' → r i = r j → i = j) → (∀ i : Nat, i < N' → r i ∉ L) → va_K D cl (tys ++ [(cA, .array ty)]) s →
      va_P D cl ((X ++ [(q, .inl (cA, N', .inr (.inr (.inr (.inr (fun i => if i < N' then some (r i) else none))))))]) ++ va_pl (L ++ (List.range N').map r) (vr_up f ((List.range N').map r) (.inl (cy, z)))) H1 → va_D A ((X ++ [(q, .inl (cA, N', .inr (.inr (.inr (.inr (fun i => if i < N' then some (r i) else none))))))]) ++ va_pl (L ++ (List.range N').map r) (vr_up f ((List.range N').map r) (.inl (cy, z)))) → va_S A H0 H1 locs →
      W p l e R s m args below meth c H1 locs (cells + 1 + N') (slots + N' + N' * K') Q (F0 m (pc + 4) ls (.ref q :: rest))) : W p l e R s m args below meth c H locs cells slots Q (F0 m pc ls (.int k :: .int n :: rest)) := by
  subst hN
  subst hM
  intro T hT Xs
  obtain ⟨vm₁, cA, comp, -, fA, fC, hO, -, X', step⟩ := Xs.multianewarray2F hexec hown hclink (va_AOA.use hover) harr (g := F0 m pc ls (.int k :: .int n :: rest)) rfl (by rw [hb]; exact hdg) rfl hn hk hb1 hb2 hb3 hdf hdd hcells hslots
  have ec : some cy = some comp := hcy.symm.trans fC
  cases ec
  generalize hF : Jvm.Free.Multi.fill (T.setVm vm₁) cA cy n.toNatClampNeg k.toNatClampNeg (defaultValue ty) n.toNatClampNeg = F at X' step
  have hTh : (T.setVm vm₁).heap = H := hT
  obtain ⟨f1, f2, -, -⟩ := Jvm.Free.Multi.fill_facts (T.setVm vm₁) cA cy n.toNatClampNeg k.toNatClampNeg (defaultValue ty) n.toNatClampNeg
  rw [hF, hTh] at f1 f2
  have hold : ∀ x : Nat, x < H.size → F.heap[x]? = H[x]? := fun x hx => by
    have := Jvm.Free.Multi.fill_old (T.setVm vm₁) cA cy n.toNatClampNeg k.toNatClampNeg (defaultValue ty) (a := x) (by rw [hTh]; exact hx) n.toNatClampNeg
    rw [hF, hTh] at this
    exact this
  have hrow : ∀ j : Nat, j < n.toNatClampNeg → F.heap[H.size + 1 + j]? = some (vp_cell cy z) := fun j hj => by
    have := Jvm.Free.Multi.fill_inner (T.setVm vm₁) cA cy n.toNatClampNeg k.toNatClampNeg (defaultValue ty) n.toNatClampNeg j hj
    rw [hF, hTh, hz] at this
    exact this
  have hout : Jvm.Free.Multi.outerC cA n.toNatClampNeg H.size n.toNatClampNeg = vp_cell cA (n.toNatClampNeg, .inr (.inr (.inr (.inr (fun i => if i < n.toNatClampNeg then some (H.size + 1 + i) else none))))) := by
    rw [vp_cell_q]
    exact vr_outer cA n.toNatClampNeg H.size n.toNatClampNeg
  rw [hout] at f2
  have hlt : ∀ a, a ∈ L → a < H.size := fun a ha => by
    obtain ⟨k9, hk9⟩ := va_pl_get (X := X) (f := f) ha
    exact (hP k9 _ hk9).lt
  have hnl : ∀ i : Nat, i < n.toNatClampNeg → H.size + 1 + i ∉ L := fun i _ h => by
    have := hlt _ h
    omega
  have hnm : ∀ a, a ∈ (List.range n.toNatClampNeg).map (fun i => H.size + 1 + i) → a ∉ L := fun a ha h => by
    obtain ⟨i, -, rfl⟩ := List.mem_map.mp ha
    have := hlt _ h
    omega
  have hP0 : va_P D cl (X ++ va_pl L f) F.heap := hP.kept (fun k9 x hx => hold x.1 ((hP k9 x hx).lt))
  have hP1 : va_P D cl ((X ++ va_pl L f) ++ [(H.size, .inl (cA, n.toNatClampNeg, .inr (.inr (.inr (.inr (fun i => if i < n.toNatClampNeg then some (H.size + 1 + i) else none))))))]) F.heap := hP0.app (fun k9 x hx => by
    have h0 : k9 < 1 := (List.getElem?_eq_some_iff.mp hx).1
    rw [show k9 = 0 by omega] at hx
    cases hx
    exact f2)
  have hP2 : va_P D cl (((X ++ va_pl L f) ++ [(H.size, .inl (cA, n.toNatClampNeg, .inr (.inr (.inr (.inr (fun i => if i < n.toNatClampNeg then some (H.size + 1 + i) else none))))))]) ++ ((List.range n.toNatClampNeg).map (fun i => H.size + 1 + i)).map (fun a => (a, .inl (cy, z)))) F.heap := hP1.app (fun k9 x hx => by
    obtain ⟨a, ha, rfl⟩ := List.mem_map.mp (List.mem_of_getElem? hx)
    obtain ⟨i, hi, rfl⟩ := List.mem_map.mp ha
    exact hrow i (List.mem_range.mp hi))
  have hD2 : va_D A (((X ++ va_pl L f) ++ [(H.size, .inl (cA, n.toNatClampNeg, .inr (.inr (.inr (.inr (fun i => if i < n.toNatClampNeg then some (H.size + 1 + i) else none))))))]) ++ ((List.range n.toNatClampNeg).map (fun i => H.size + 1 + i)).map (fun a => (a, .inl (cy, z)))) := by
    have hD1 := hD.push (e := .inl (cA, n.toNatClampNeg, .inr (.inr (.inr (.inr (fun i => if i < n.toNatClampNeg then some (H.size + 1 + i) else none)))))) hP rfl (hA _ hS.1)
    generalize hW1 : (X ++ va_pl L f) ++ [(H.size, .inl (cA, n.toNatClampNeg, .inr (.inr (.inr (.inr (fun i => if i < n.toNatClampNeg then some (H.size + 1 + i) else none))))))] = W1 at hD1 hP1 ⊢
    have hle : ∀ (k9 : Nat) (x : Nat × va_E), W1[k9]? = some x → x.1 ≤ H.size := fun k9 x hx => by
      rw [← hW1] at hx
      by_cases hl : k9 < (X ++ va_pl L f).length
      · rw [List.getElem?_append_left hl] at hx
        exact Nat.le_of_lt ((hP k9 x hx).lt)
      · rw [List.getElem?_append_right (by omega)] at hx
        have h0 : k9 - (X ++ va_pl L f).length < 1 := (List.getElem?_eq_some_iff.mp hx).1
        rw [show k9 - (X ++ va_pl L f).length = 0 by omega] at hx
        cases hx
        exact Nat.le_refl _
    have hr : ∀ (k9 : Nat) (x : Nat × va_E), (((List.range n.toNatClampNeg).map (fun i => H.size + 1 + i)).map (fun a => ((a, .inl (cy, z)) : Nat × va_E)))[k9]? = some x → x.1 = H.size + 1 + k9 := fun k9 x hx => by
      rw [List.getElem?_map, List.getElem?_map] at hx
      by_cases h9 : k9 < n.toNatClampNeg
      · rw [List.getElem?_range h9] at hx
        cases hx
        rfl
      · have hn0 : (List.range n.toNatClampNeg)[k9]? = none := List.getElem?_eq_none (by rw [List.length_range]; omega)
        rw [hn0] at hx
        cases hx
    refine ⟨fun i j x y hi hj hxy => ?_, fun k9 x hx => ?_⟩
    · by_cases h1 : i < W1.length <;> by_cases h2 : j < W1.length
      · rw [List.getElem?_append_left h1] at hi
        rw [List.getElem?_append_left h2] at hj
        exact hD1.1 i j x y hi hj hxy
      · rw [List.getElem?_append_left h1] at hi
        rw [List.getElem?_append_right (by omega)] at hj
        have := hle _ _ hi
        have := hr _ _ hj
        omega
      · rw [List.getElem?_append_right (by omega)] at hi
        rw [List.getElem?_append_left h2] at hj
        have := hle _ _ hj
        have := hr _ _ hi
        omega
      · rw [List.getElem?_append_right (by omega)] at hi hj
        have := hr _ _ hi
        have := hr _ _ hj
        omega
    · by_cases h1 : k9 < W1.length
      · rw [List.getElem?_append_left h1] at hx
        exact hD1.2 k9 x hx
      · rw [List.getElem?_append_right (by omega)] at hx
        have := hr _ _ hx
        exact hA _ (by have := hS.1; omega)
  have hAr : ArrOfT s cA (.array ty) := fun N9 z9 => by
    obtain ⟨-, k9, hk9, cm9, hkk9⟩ := (hO 0 0 0).1
    exact ⟨(fun q hq => by cases hq), k9, hk9, cm9, hkk9⟩
  have hK2 : va_K D cl (tys ++ [(cA, .array ty)]) s := ⟨hK.1, fun k9 x hx => by
    by_cases hl : k9 < tys.length
    · rw [List.getElem?_append_left hl] at hx
      exact hK.2 k9 x hx
    · rw [List.getElem?_append_right (by omega)] at hx
      have h0 : k9 - tys.length < 1 := (List.getElem?_eq_some_iff.mp hx).1
      rw [show k9 - tys.length = 0 by omega] at hx
      cases hx
      exact ⟨hAr, fA⟩⟩
  obtain ⟨t, a1, b1⟩ := kk H.size (fun i => H.size + 1 + i) cA F.heap (fun i j _ _ h => by have h9 : H.size + 1 + i = H.size + 1 + j := h; omega) hnl hK2 (by rw [← vr_rows hnm]; exact vr_lay hP2) (by rw [← vr_rows hnm]; exact vr_layD hD2) ⟨by rw [f1]; have := hS.1; omega, fun x h1 h2 => (hold x (Nat.lt_of_lt_of_le h1 hS.1)).trans (hS.2.1 x h1 h2), hS.2.2⟩ F rfl X'
  refine ⟨t, step t ?_, b1⟩
  have e : T.heap.size = H.size := by rw [hT]
  rw [e]
  exact a1
end VGM
/-! ===== END ===== -/

/-! ===== BEGIN exceptions that leave a method, and their catching by the caller (launches without stack traces) ===== -/
section VXA
/-! The laws vx_back, vx_callV, vx_callS, vx_callSW, vx_throw0, vx_throwS follow proofs of the library, with one case more: JvmDerived/Free/Laws.lean (Back.of_free), Shelf42/LK1.lean (callV, callS), Shelf/KitTraced.lean (throwNew0V, throwNewS). -/
/-- where a method has thrown q: the class by its name, the cell, what was written, the world -/
def vx_T (XC : String → State → State → Prop) (st : State) (q : Addr) (t : State) (mc ms : Nat) (free : Addr → Prop) : Prop :=
  ∃ (E : String) (ce : Cell) (L : List Loc), XC E st t ∧ t.heap[q]? = some ce ∧ ce.vm = .none ∧ st.vm.findClass E = some ce.cls ∧ st.WarmedH t.vm ∧ st.sameButNew ({ t with vm := st.vm } : State) L mc ms ∧ ∀ z ∈ L, free z.base
def vx_Q (Qc : Array Value → State → Outcome → State → Prop) (XC : String → State → State → Prop) (mc ms : Nat) (free : Addr → Prop) : Array Value → State → Outcome → State → Prop := fun a st o t =>
  (Qc a st o t ∧ ∃ L, FrameEnd st o t L mc ms ∧ ∀ q ∈ L, free q.base) ∨ ∃ q, o = .threw q ∧ vx_T XC st q t mc ms free
/-- a callee that returns or throws -/
def vx_Met (l : Launch) (y : MethodName) (ws : List Cond) (rm : Room) (Pc : Array Value → State → Prop) (Qc : Array Value → State → Outcome → State → Prop) (XC : String → State → State → Prop) (mc ms : Nat) (free : Addr → Prop) : Prop :=
  MetFree l y (headSpec ws rm) Pc (fun _ _ _ _ _ => True) (vx_Q Qc XC mc ms free)
def vx_Post (XC : String → State → State → Prop) (mc ms : Nat) (free : Addr → Prop) : Pt → Array Value → Addr → Pt → Prop := fun A a q B =>
  ∃ (g : JFrame) (mk : MethodId) (t : State) (L : List Loc) (E : String) (ce : Cell), B.U.heap = t.heap ∧ B.U.vm = t.vm ∧ XC E (A.U.calling g mk a) t ∧ t.heap[q]? = some ce ∧ ce.vm = .none ∧ A.U.vm.findClass E = some ce.cls ∧ B.locs = A.locs ++ L ∧ (∀ z ∈ L, free z.base) ∧ B.cells = A.cells + mc ∧ B.slots = A.slots + ms
def vx_Back (l : Launch) (R : Room) (p : Program) (e : Env) (below : List Frame) (s : State) (sargs : Array Value) (y : MethodName) (len W9 : Nat)
    (Pre : Pt → Array Value → Prop) (Post : Pt → Array Value → Option Value → Pt → Prop) (PostX : Pt → Array Value → Addr → Pt → Prop) : Prop :=
  ∀ (m : MethodId) (meth : Method) (c : Code) (A : Pt) (g : JFrame) (ig : Instr) (mk : MethodId) (a : Array Value),
    Stand p l e R s m sargs below meth c A.U A.locs A.cells A.slots → g.method = m → g.locals.size = c.maxLocals → decode c.code g.pc = .ok (ig, len) →
    2 * g.monitorRoom + (g.stack.map fun v => v.category).sum ≤ W9 → A.U.methodNamed? y = some mk → Pre A a →
    (∃ (v : Option Value) (B : Pt), Stand p l e R s m sargs below meth c B.U B.locs B.cells B.slots ∧ Post A a v B ∧
      Steps p.tables e below (doInvoke e (A.U.setTop g) [] mk a).1 (B.U.setTop { g with pc := g.pc + len, stack := v.toList ++ g.stack })) ∨
    (∃ (q : Addr) (B : Pt), Stand p l e R s m sargs below meth c B.U B.locs B.cells B.slots ∧ PostX A a q B ∧
      Steps p.tables e below (doInvoke e (A.U.setTop g) [] mk a).1 ((B.U.setTop g).pushFrame (.throwing q)))
section Payer
variable {l : Launch} {R : Room} {p : Program} {e : Env} {below : List Frame} {s : State} {sargs : Array Value} {y : MethodName} {len W9 : Nat}
theorem vx_back {ws : List Cond} {rm : Room} {Pc : Array Value → State → Prop} {Qc : Array Value → State → Outcome → State → Prop} {XC : String → State → State → Prop} {mc ms : Nat} {free : Addr → Prop} {bytes : ByteArray} {maxL : Nat} {ret : Option FieldType}
    (hM : vx_Met l y ws rm Pc Qc XC mc ms free) (hblind : FrameBlind Pc) (hrc : rm.cells = mc) (hrs : rm.slots = ms)
    (hframes : rm.frames + 1 ≤ R.frames) (hlocals : W9 + (maxL + 11) + rm.locals ≤ R.locals)
    (hws : ∀ w ∈ ws, ∀ a' U, s.WarmedH U.vm → w.before a' U = true) (hcode : Cond.code y bytes maxL ret ∈ ws) (hinit : ∀ a' U, s.WarmedH U.vm → (Cond.initialized y.cls).before a' U = true) :
    vx_Back l R p e below s sargs y len W9 (PreOf R mc ms Pc) (PostOf Qc mc ms free) (vx_Post XC mc ms free) := by
  intro m meth c A g ig mk a X hg hsize hdg hW hn hp
  have h1 : (headSpec ws rm).pre.before a A.U = true := atoms_intro fun w hw => hws w hw _ _ X.warmed
  have h2 : (Cond.code y bytes maxL ret).before a A.U = true := hws _ hcode _ _ X.warmed
  have h3 : (Cond.initialized y.cls).before a A.U = true := hinit _ _ X.warmed
  have h4 : A.cells + (headSpec ws rm).room.cells ≤ R.cells := by rw [show (headSpec ws rm).room.cells = mc from hrc]; exact hp.1
  have h5 : A.slots + (headSpec ws rm).room.slots ≤ R.slots := by rw [show (headSpec ws rm).room.slots = ms from hrs]; exact hp.2.1
  have hPc : Pc a (A.U.calling g mk a) := hblind _ _ _ _ hp.2.2
  obtain ⟨U, Ls, c0, s0⟩ := A
  dsimp only [Pt.U, Pt.locs, Pt.cells, Pt.slots] at h1 h2 h3 h4 h5 X hn hPc ⊢
  obtain ⟨methY, cY, hmY, hcY, -, hlY, -, -, -, -⟩ := Cond.code_spec hn h2
  obtain ⟨kY, hkY, -⟩ := className_of_methodNamed hn
  have hinitY : kY.init = .initialized := Cond.initialized_spec (findClass_of_methodNamed hn) hkY h3
  have h : At U g.method c below := by rw [hg]; exact X.here
  have hlocals9 : W9 + (maxL + 11) + (headSpec ws rm).room.locals ≤ R.locals := hlocals
  have happ : (headSpec ws rm).appliesLoose y e.platform (U.calling g mk a) = true :=
    Spec.appliesLoose_calling (g := g) h hdg hn hkY hinitY
      (X.room_calling (g := g) (R' := (headSpec ws rm).room) hsize hmY hcY hframes (by rw [hlY]; omega) h4 h5) h1
  obtain ⟨mid, hmid⟩ := h.above
  have hfr : (U.setTop g).frames = (.java g :: mid) ++ below := by rw [State.frames_setTop' g h.top, hmid]; rfl
  obtain ⟨o, s₂, hsteps, -, hend, hq⟩ := Steps.callFree hM p X.admits X.cas X.clock (acts := []) hfr happ hPc trivial
  have hq' : vx_Q Qc XC mc ms free a (U.calling g mk a) o s₂ := hq
  rw [State.frames_setTop' g h.top] at hend
  obtain ⟨g₀, hg0⟩ := Option.isSome_iff_exists.mp h.top
  obtain ⟨r, hr⟩ := State.topJava?_eq_some.mp hg0
  have hr' : (({ U with heap := s₂.heap, slotsUsed := s₂.slotsUsed } : State).setVm s₂.vm).frames = .java g₀ :: r := hr
  rcases hq' with ⟨hqc, L, hfe, hL⟩ | ⟨q, rfl, E, ce, L, hx, hce, hcv, hcl, hW₂, hsm, hL⟩
  · obtain ⟨⟨v, rfl⟩, hW₂, e2, q2, q3, q4, q5, q6⟩ := id hfe
    have e3 : s₂ = ({ (U.calling g mk a).setFrames s₂.frames with heap := s₂.heap, slotsUsed := s₂.slotsUsed } : State).setVm s₂.vm := by
      have : s₂ = ({ s₂ with vm := (U.calling g mk a).vm } : State).setVm s₂.vm := rfl
      rw [e2] at this
      exact this
    obtain ⟨c₂, i₂, len₂, hc₂, hd₂, hf₂⟩ := hend
    have hW' : U.WarmedH s₂.vm := hW₂
    have hcc : c₂ = c := by
      have h1 : s₂.code? g.method = U.code? g.method := by
        rw [State.code?_eq, State.code?_eq, hW'.alike.method?]
      exact Option.some.inj (hc₂.symm.trans (h1.trans h.code))
    subst hcc
    have hlen : len₂ = len := by rw [hdg] at hd₂; cases hd₂; rfl
    subst hlen
    have hs₂ : s₂ = (({ U with heap := s₂.heap, slotsUsed := s₂.slotsUsed } : State).setVm s₂.vm).setTop { g with pc := g.pc + len₂, stack := v.toList ++ g.stack } := by
      refine e3.trans ?_
      rw [hf₂, State.calling_eq h.top, State.setFrames_setFrames, State.setTop_of_frames _ hr', hr]
      rfl
    have hsame : U.sameButNew ({ U with heap := s₂.heap, slotsUsed := s₂.slotsUsed } : State) L mc ms := by
      refine ⟨?_, q2, q3, q4, q5, q6⟩
      obtain ⟨t, ht, -⟩ := State.frames_cons hr
      show ({ U with heap := s₂.heap, slotsUsed := s₂.slotsUsed } : State) = { U.setFrames U.frames with heap := s₂.heap, slotsUsed := s₂.slotsUsed }
      rw [State.setFrames_self ht]
    subst hg
    refine Or.inl ⟨v, ⟨(({ U with heap := s₂.heap, slotsUsed := s₂.slotsUsed } : State).setVm s₂.vm), Ls ++ L, c0 + mc, s0 + ms⟩,
      ⟨X.admits, X.cas, X.clock, X.frames, X.room, X.hears, X.method, X.code, (X.here.setHeapUsed s₂.heap s₂.slotsUsed).setVm hW'.alike, X.tail, State.WarmedH.trans X.warmed hW', X.limits, X.bytes, X.same.trans (hsame.setVm s.vm)⟩,
      ⟨g, mk, s₂, L, rfl, rfl, hqc, rfl, hL, rfl, rfl⟩, ?_⟩
    show Steps p.tables e below _ ((({ U with heap := s₂.heap, slotsUsed := s₂.slotsUsed } : State).setVm s₂.vm).setTop { g with pc := g.pc + len₂, stack := v.toList ++ g.stack })
    rw [← hs₂]
    exact hsteps
  · obtain ⟨e2, q2, q3, q4, q5, q6⟩ := id hsm
    have e3 : s₂ = ({ (U.calling g mk a).setFrames s₂.frames with heap := s₂.heap, slotsUsed := s₂.slotsUsed } : State).setVm s₂.vm := by
      have : s₂ = ({ s₂ with vm := (U.calling g mk a).vm } : State).setVm s₂.vm := rfl
      rw [e2] at this
      exact this
    have hf₂ : s₂.frames = .throwing q :: .java g :: U.frames.tail := hend
    have hW' : U.WarmedH s₂.vm := hW₂
    have hs₂ : s₂ = ((({ U with heap := s₂.heap, slotsUsed := s₂.slotsUsed } : State).setVm s₂.vm).setTop g).pushFrame (.throwing q) := by
      refine e3.trans ?_
      rw [hf₂, State.calling_eq h.top, State.setFrames_setFrames, State.pushFrame, State.frames_setTop _ hr', State.setTop_of_frames _ hr', State.setFrames_setFrames, hr]
      rfl
    have hsame : U.sameButNew ({ U with heap := s₂.heap, slotsUsed := s₂.slotsUsed } : State) L mc ms := by
      refine ⟨?_, q2, q3, q4, q5, q6⟩
      obtain ⟨t, ht, -⟩ := State.frames_cons hr
      show ({ U with heap := s₂.heap, slotsUsed := s₂.slotsUsed } : State) = { U.setFrames U.frames with heap := s₂.heap, slotsUsed := s₂.slotsUsed }
      rw [State.setFrames_self ht]
    subst hg
    refine Or.inr ⟨q, ⟨(({ U with heap := s₂.heap, slotsUsed := s₂.slotsUsed } : State).setVm s₂.vm), Ls ++ L, c0 + mc, s0 + ms⟩,
      ⟨X.admits, X.cas, X.clock, X.frames, X.room, X.hears, X.method, X.code, (X.here.setHeapUsed s₂.heap s₂.slotsUsed).setVm hW'.alike, X.tail, State.WarmedH.trans X.warmed hW', X.limits, X.bytes, X.same.trans (hsame.setVm s.vm)⟩,
      ⟨g, mk, s₂, L, E, ce, rfl, rfl, hx, hce, hcv, hcl, rfl, hL, rfl, rfl⟩, ?_⟩
    show Steps p.tables e below _ (((({ U with heap := s₂.heap, slotsUsed := s₂.slotsUsed } : State).setVm s₂.vm).setTop g).pushFrame (.throwing q))
    rw [← hs₂]
    exact hsteps
end Payer
section Calls
variable {p : Program} {l : Launch} {e : Env} {R : Room} {s : State} {m : MethodId} {args : Array Value} {below : List Frame} {meth : Method} {c : Code} {T : State} {locs : List Loc} {cells slots : Nat}
theorem vx_callV (X : Stand p l e R s m args below meth c T locs cells slots) (hexec : p.tables.exec = Jvm.exec) {own C : String} {index : Nat} {y : MethodName} {bytes : ByteArray} {maxL : Nat} {ret : Option FieldType}
    (hown : s.vm.findClass own = some m.cls) (hlink : (Cond.methodLink own index y).before args s = true) (hinst : (Cond.instanceMethod y).before args s = true) (hsel : (Cond.selects C y y).before args s = true)
    (hcode : (Cond.code y bytes maxL ret).before args s = true) (hy : y.cls ≠ "java/lang/invoke/MethodHandle" ∧ y.cls ≠ "java/lang/invoke/VarHandle")
    {W9 : Nat} {Pre : Pt → Array Value → Prop} {Post : Pt → Array Value → Option Value → Pt → Prop} {PostX : Pt → Array Value → Addr → Pt → Prop} (hK : vx_Back l R p e below s args y 3 W9 Pre Post PostX)
    {b : Addr} {cellB : Cell} (hcell : T.heap[b]? = some cellB) (hobj : cellB.vm.isStatics = false) (hcls : s.vm.findClass C = some cellB.cls)
    {g : JFrame} (hg : g.method = m) (hsize : g.locals.size = c.maxLocals) {argsL rest : List Value} (hlen : ∀ sig, parseMethodDescriptor y.desc = some sig → argsL.length = sig.parameters.length)
    (hstack : g.stack = argsL.reverse ++ .ref b :: rest) (hW : 2 * g.monitorRoom + (rest.map fun v => v.category).sum ≤ W9) (hdg : decode c.code g.pc = .ok (.invokevirtual index, 3))
    (hpre : ∀ vm₁, s.WarmedH vm₁ → Pre ⟨T.setVm vm₁, locs, cells, slots⟩ (Value.ref b :: argsL).toArray) :
    (∃ (v : Option Value) (vm₁ : Vm) (B : Pt), s.WarmedH vm₁ ∧ Stand p l e R s m args below meth c B.U B.locs B.cells B.slots ∧ Post ⟨T.setVm vm₁, locs, cells, slots⟩ (Value.ref b :: argsL).toArray v B ∧
      ∀ target, Steps p.tables e below (B.U.setTop { g with pc := g.pc + 3, stack := v.toList ++ rest }) target → Steps p.tables e below (T.setTop g) target) ∨
    (∃ (q : Addr) (vm₁ : Vm) (B : Pt), s.WarmedH vm₁ ∧ Stand p l e R s m args below meth c B.U B.locs B.cells B.slots ∧ PostX ⟨T.setVm vm₁, locs, cells, slots⟩ (Value.ref b :: argsL).toArray q B ∧
      Steps p.tables e below (T.setTop g) ((B.U.setTop { g with stack := rest }).pushFrame (.throwing q))) := by
  obtain ⟨mk, methM, hnamed, hmethM, hstM, habM⟩ := Cond.instanceMethod_spec hinst
  obtain ⟨methM', cM, hmethM', -, -, -, -, -, -, hsigM⟩ := Cond.code_spec hnamed hcode
  cases hmethM.symm.trans hmethM'
  obtain ⟨c2, r2, m2, q1, q2, q3, q4, kP, hkP, hkPi⟩ := Cond.selects_spec hsel
  cases hcls.symm.trans q1
  cases (State.methodFound?_of_named hnamed hy).symm.trans q2
  cases hnamed.symm.trans q3
  have hselP : selectMethod e.platform s.vm cellB.cls mk = .method mk := by rw [Launch.admits_selectMethod X.admits]; exact q4
  obtain ⟨vm₁, X₁, hstep₁⟩ := X.invokevirtual hexec hown hlink hnamed hmethM hstM hkP hkPi hy (a := b) (cell := cellB) hcell
    (fun z h => by rw [h] at hobj; cases hobj) hselP hmethM habM hkP hkPi (g := g) hg (argsL := argsL) (rest := rest) (hlen _ hsigM) hstack hdg
  rcases hK m meth c ⟨T.setVm vm₁, locs, cells, slots⟩ { g with stack := rest } (.invokevirtual index) mk (Value.ref b :: argsL).toArray X₁ hg hsize hdg hW (X₁.named hnamed) (hpre vm₁ X₁.warmed) with ⟨v, B, X', hpost, hsteps⟩ | ⟨q, B, X', hpost, hsteps⟩
  · exact Or.inl ⟨v, vm₁, B, X₁.warmed, X', hpost, fun target h => hstep₁ _ fun acts => by rw [doInvoke_state]; exact hsteps.trans h⟩
  · exact Or.inr ⟨q, vm₁, B, X₁.warmed, X', hpost, hstep₁ _ fun acts => by rw [doInvoke_state]; exact hsteps⟩
theorem vx_callS (X : Stand p l e R s m args below meth c T locs cells slots) (hexec : p.tables.exec = Jvm.exec) {own : String} {index : Nat} {y : MethodName} {bytes : ByteArray} {maxL : Nat} {ret : Option FieldType}
    (hown : s.vm.findClass own = some m.cls) (hlink : (Cond.methodLink own index y).before args s = true) (hstat : (Cond.static y).before args s = true) (hinit : (Cond.initialized y.cls).before args s = true)
    (hcode : (Cond.code y bytes maxL ret).before args s = true) (hy : y.cls ≠ "java/lang/invoke/MethodHandle" ∧ y.cls ≠ "java/lang/invoke/VarHandle")
    {W9 : Nat} {Pre : Pt → Array Value → Prop} {Post : Pt → Array Value → Option Value → Pt → Prop} {PostX : Pt → Array Value → Addr → Pt → Prop} (hK : vx_Back l R p e below s args y 3 W9 Pre Post PostX)
    {g : JFrame} (hg : g.method = m) (hsize : g.locals.size = c.maxLocals) {argsL rest : List Value} (hlen : ∀ sig, parseMethodDescriptor y.desc = some sig → argsL.length = sig.parameters.length)
    (hstack : g.stack = argsL.reverse ++ rest) (hW : 2 * g.monitorRoom + (rest.map fun v => v.category).sum ≤ W9) (hdg : decode c.code g.pc = .ok (.invokestatic index, 3))
    (hpre : ∀ vm₁, s.WarmedH vm₁ → Pre ⟨T.setVm vm₁, locs, cells, slots⟩ argsL.toArray) :
    (∃ (v : Option Value) (vm₁ : Vm) (B : Pt), s.WarmedH vm₁ ∧ Stand p l e R s m args below meth c B.U B.locs B.cells B.slots ∧ Post ⟨T.setVm vm₁, locs, cells, slots⟩ argsL.toArray v B ∧
      ∀ target, Steps p.tables e below (B.U.setTop { g with pc := g.pc + 3, stack := v.toList ++ rest }) target → Steps p.tables e below (T.setTop g) target) ∨
    (∃ (q : Addr) (vm₁ : Vm) (B : Pt), s.WarmedH vm₁ ∧ Stand p l e R s m args below meth c B.U B.locs B.cells B.slots ∧ PostX ⟨T.setVm vm₁, locs, cells, slots⟩ argsL.toArray q B ∧
      Steps p.tables e below (T.setTop g) ((B.U.setTop { g with stack := rest }).pushFrame (.throwing q))) := by
  obtain ⟨mk, hnamed⟩ := Cond.code_named hcode
  obtain ⟨methM, cM, hmethM, -, -, -, -, -, -, hsigM⟩ := Cond.code_spec hnamed hcode
  have hstatic : methM.isStatic = true := Cond.static_spec hnamed hmethM hstat
  obtain ⟨kP, hkP, -⟩ := className_of_methodNamed hnamed
  have hinitP : kP.init = .initialized := Cond.initialized_spec (findClass_of_methodNamed hnamed) hkP hinit
  obtain ⟨vm₁, X₁, hstep₁⟩ := X.invokestatic hexec hown hlink hnamed hmethM hstatic hkP hinitP hy (g := g) hg (argsL := argsL) (rest := rest) (hlen _ hsigM) hstack hdg
  rcases hK m meth c ⟨T.setVm vm₁, locs, cells, slots⟩ { g with stack := rest } (.invokestatic index) mk argsL.toArray X₁ hg hsize hdg hW (X₁.named hnamed) (hpre vm₁ X₁.warmed) with ⟨v, B, X', hpost, hsteps⟩ | ⟨q, B, X', hpost, hsteps⟩
  · exact Or.inl ⟨v, vm₁, B, X₁.warmed, X', hpost, fun target h => hstep₁ _ fun acts => by rw [doInvoke_state]; exact hsteps.trans h⟩
  · exact Or.inr ⟨q, vm₁, B, X₁.warmed, X', hpost, hstep₁ _ fun acts => by rw [doInvoke_state]; exact hsteps⟩
end Calls
theorem vx_cls {s : State} {T : State} {vm₁ : Vm} {E : String} {k : ClassId} (hW : s.WarmedH vm₁) (h : (T.setVm vm₁).vm.findClass E = some k) : s.vm.findClass E = some k := by
  have h1 : vm₁.findClass E = some k := h
  rw [hW.alike.findClass] at h1
  exact h1
/-- the method's frame g, with q thrown over it -/
def vx_W (p : Program) (l : Launch) (e : Env) (R : Room) (s : State) (m : MethodId) (args : Array Value) (below : List Frame) (meth : Method) (c : Code) (H : Heap) (locs : List Loc) (cells slots : Nat) (Q : State → Prop) (g : JFrame) (q : Addr) : Prop :=
  ∀ T : State, T.heap = H → Stand p l e R s m args below meth c T locs cells slots → ∃ t, Steps p.tables e below ((T.setTop g).pushFrame (.throwing q)) t ∧ Q t
def vx_Run (p : Program) (l : Launch) (e : Env) (R : Room) (s : State) (m : MethodId) (args : Array Value) (below : List Frame) (meth : Method) (c : Code) (H : Heap) (locs : List Loc) (cells slots mc ms : Nat) (g : JFrame) (rest : List Value) (Qa : State → Outcome → State → Prop) (XC : String → State → State → Prop) (free : Addr → Prop) : Prop :=
  ∀ T : State, T.heap = H → Stand p l e R s m args below meth c T locs cells slots →
    (∃ (v : Option Value) (st₀ t T' : State) (L : List Loc), st₀.heap = H ∧ Stand p l e R s m args below meth c T' (locs ++ L) (cells + mc) (slots + ms) ∧ (∀ q ∈ L, free q.base) ∧ T'.heap = t.heap ∧ T'.vm = t.vm ∧ Qa st₀ (.returned v) t ∧
      Goes p e below T g T' { g with pc := g.pc + 3, stack := v.toList ++ rest }) ∨
    (∃ (q : Addr) (st₀ t T' : State) (L : List Loc) (E : String) (ce : Cell), st₀.heap = H ∧ Stand p l e R s m args below meth c T' (locs ++ L) (cells + mc) (slots + ms) ∧ (∀ z ∈ L, free z.base) ∧ T'.heap = t.heap ∧ T'.vm = t.vm ∧ XC E st₀ t ∧ t.heap[q]? = some ce ∧ ce.vm = .none ∧ s.vm.findClass E = some ce.cls ∧
      Steps p.tables e below (T.setTop g) ((T'.setTop { g with stack := rest }).pushFrame (.throwing q)))
def vx_X {S : Type} (px : S → Prop) (B : String → S → State → Prop) (A : Nat → Prop) : String → State → State → Prop := fun E st t => ∃ u : S, px u ∧ B E u t ∧ va_F A st t
section Runs
variable {p : Program} {l : Launch} {e : Env} {R : Room} {s : State} {m : MethodId} {args : Array Value} {below : List Frame} {meth : Method} {c : Code} {H : Heap} {locs : List Loc} {cells slots : Nat}
variable {y : MethodName} {bytes cc : ByteArray} {maxL nL mc ms n index : Nat} {ret : Option FieldType} {ws : List Cond} {rm : Room} {Pc : Array Value → State → Prop} {Qc : Array Value → State → Outcome → State → Prop} {XC : String → State → State → Prop} {free : Addr → Prop} {Ts : List Cond} {own C : String} {b : Addr} {As rest : List Value} {g : JFrame}
theorem vx_callBack (cb : CallB R s args own index y bytes maxL ret ws rm mc ms n) (hM : vx_Met l y ws rm Pc Qc XC mc ms free) (hbl : FrameBlind Pc) : vx_Back l R p e below s args y 3 8 (PreOf R mc ms Pc) (PostOf Qc mc ms free) (vx_Post XC mc ms free) := by
  obtain ⟨hrc, hrs, hfr, hlo, hws, hcw, -, hini, -⟩ := cb
  exact vx_back (bytes := bytes) (maxL := maxL) (ret := ret) hM hbl hrc hrs hfr hlo hws hcw (fun a' U hW => word_at hW (Or.inl (by first | rfl | simp [Cond.onTables, Cond.keeps, Cond.steady])) hini)
theorem vx_runV (S : CallFix p m c cc nL s args Ts own) (hM : vx_Met l y ws rm Pc Qc XC mc ms free) (cw : CallW R s args own C index y bytes maxL ret ws rm mc ms n) (hp : PreV s H C b Pc As)
    (hg : g.method = m) (hn : As.length = n) (hsize : g.locals.size = nL) (hstack : g.stack = As.reverse ++ .ref b :: rest) (hW : 2 * g.monitorRoom + (rest.map fun v => v.category).sum ≤ 8) (hdg : decode cc g.pc = .ok (.invokevirtual index, 3)) (hf : cells + mc ≤ R.cells ∧ slots + ms ≤ R.slots) :
    vx_Run p l e R s m args below meth c H locs cells slots mc ms g rest (Qc (Value.ref b :: As).toArray) XC free := by
  have hK : vx_Back l R p e below s args y 3 8 (PreOf R mc ms Pc) (PostOf Qc mc ms free) (vx_Post XC mc ms free) := vx_callBack cw.1 hM hp.1
  obtain ⟨⟨-, -, -, -, -, -, hcode, -, hy, hlen, hl⟩, hin, hse⟩ := cw
  obtain ⟨hx, hb, hml, ho, -⟩ := S
  obtain ⟨-, ⟨cellB, hcB, hoB, hclB⟩, hPc⟩ := hp
  intro T hT X
  rcases vx_callV X hx (C := C) (bytes := bytes) (maxL := maxL) (ret := ret) ho hl hin hse hcode hy hK (by rw [hT]; exact hcB) hoB hclB hg (hsize.trans hml.symm) (argsL := As) (rest := rest) (fun sig h => hn.trans (hlen sig h)) hstack hW (by rw [hb]; exact hdg)
    (fun vm₁ hW₁ => ⟨hf.1, hf.2, hPc (T.setVm vm₁) hT hW₁⟩) with ⟨v, vm₁, ⟨U', l2, c2, s2⟩, hW₁, X', ⟨g', mk, t, L, e1, e2, hq, h1, hL, h2, h3⟩, st⟩ | ⟨q, vm₁, ⟨U', l2, c2, s2⟩, hW₁, X', ⟨g', mk, t, L, E, ce, e1, e2, hq, hce, hcv, hcl, h1, hL, h2, h3⟩, st⟩
  · dsimp only [Pt.U, Pt.locs, Pt.cells, Pt.slots] at X' e1 e2 h1 h2 h3 st
    subst h1; subst h2; subst h3
    exact Or.inl ⟨v, (T.setVm vm₁).calling g' mk (Value.ref b :: As).toArray, t, U', L, hT, X', hL, e1, e2, hq, st⟩
  · dsimp only [Pt.U, Pt.locs, Pt.cells, Pt.slots] at X' e1 e2 h1 h2 h3 st hcl
    subst h1; subst h2; subst h3
    exact Or.inr ⟨q, (T.setVm vm₁).calling g' mk (Value.ref b :: As).toArray, t, U', L, E, ce, hT, X', hL, e1, e2, hq, hce, hcv, vx_cls hW₁ hcl, st⟩
theorem vx_runS (S : CallFix p m c cc nL s args Ts own) (hM : vx_Met l y ws rm Pc Qc XC mc ms free) (cw : CallB R s args own index y bytes maxL ret ws rm mc ms n ∧ (Cond.static y).before args s = true) (hp : PreS s H Pc As)
    (hg : g.method = m) (hn : As.length = n) (hsize : g.locals.size = nL) (hstack : g.stack = As.reverse ++ rest) (hW : 2 * g.monitorRoom + (rest.map fun v => v.category).sum ≤ 8) (hdg : decode cc g.pc = .ok (.invokestatic index, 3)) (hf : cells + mc ≤ R.cells ∧ slots + ms ≤ R.slots) :
    vx_Run p l e R s m args below meth c H locs cells slots mc ms g rest (Qc As.toArray) XC free := by
  have hK : vx_Back l R p e below s args y 3 8 (PreOf R mc ms Pc) (PostOf Qc mc ms free) (vx_Post XC mc ms free) := vx_callBack cw.1 hM hp.1
  obtain ⟨⟨-, -, -, -, -, -, hcode, hini, hy, hlen, hl⟩, hstt⟩ := cw
  obtain ⟨hx, hb, hml, ho, -⟩ := S
  intro T hT X
  rcases vx_callS X hx (bytes := bytes) (maxL := maxL) (ret := ret) ho hl hstt hini hcode hy hK hg (hsize.trans hml.symm) (argsL := As) (rest := rest) (fun sig h => hn.trans (hlen sig h)) hstack hW (by rw [hb]; exact hdg)
    (fun vm₁ hW₁ => ⟨hf.1, hf.2, hp.2 (T.setVm vm₁) hT hW₁⟩) with ⟨v, vm₁, ⟨U', l2, c2, s2⟩, hW₁, X', ⟨g', mk, t, L, e1, e2, hq, h1, hL, h2, h3⟩, st⟩ | ⟨q, vm₁, ⟨U', l2, c2, s2⟩, hW₁, X', ⟨g', mk, t, L, E, ce, e1, e2, hq, hce, hcv, hcl, h1, hL, h2, h3⟩, st⟩
  · dsimp only [Pt.U, Pt.locs, Pt.cells, Pt.slots] at X' e1 e2 h1 h2 h3 st
    subst h1; subst h2; subst h3
    exact Or.inl ⟨v, (T.setVm vm₁).calling g' mk As.toArray, t, U', L, hT, X', hL, e1, e2, hq, st⟩
  · dsimp only [Pt.U, Pt.locs, Pt.cells, Pt.slots] at X' e1 e2 h1 h2 h3 st hcl
    subst h1; subst h2; subst h3
    exact Or.inr ⟨q, (T.setVm vm₁).calling g' mk As.toArray, t, U', L, E, ce, hT, X', hL, e1, e2, hq, hce, hcv, vx_cls hW₁ hcl, st⟩
end Runs
section Rows
variable {p : Program} {l : Launch} {e : Env} {R : Room} {s : State} {m : MethodId} {args : Array Value} {below : List Frame} {meth : Method} {c : Code} {H : Heap} {locs : List Loc} {cells slots : Nat} {Q : State → Prop}
variable {mc ms : Nat} {free : Addr → Prop} {A0 A1 : Nat → Prop} {H0 : Heap} {a : Array Value} {pc : Nat} {ls : Array Slot} {st0 rest : List Value}
theorem vx_keep {st₀ t T' : State} {L : List Loc} (h0 : st₀.heap = H) (e1 : T'.heap = t.heap) (hS : va_S A0 H0 H locs) (hA : ∀ q, q < H.size → A1 q → A0 q) (hf : ∀ q, free q → A0 q) (hL : ∀ q ∈ L, free q.base) (hF : va_F A1 st₀ t) :
    H.size ≤ T'.heap.size ∧ (∀ q : Nat, q < H.size → ¬ A1 q → T'.heap[q]? = H[q]?) ∧ va_S A0 H0 T'.heap (locs ++ L) := by
  obtain ⟨hz, hk⟩ := hF
  rw [h0] at hz hk
  exact ⟨by rw [e1]; exact hz, fun q h1 h2 => by rw [e1]; exact hk q h1 h2,
    ⟨Nat.le_trans hS.1 (by rw [e1]; exact hz), fun q h1 h2 => by rw [e1, hk q (Nat.lt_of_lt_of_le h1 hS.1) (fun z => h2 (hA q (Nat.lt_of_lt_of_le h1 hS.1) z))]; exact hS.2.1 q h1 h2, fun q hq => by
      rcases List.mem_append.mp hq with h | h
      · exact hS.2.2 q h
      · exact hf _ (hL q h)⟩⟩
theorem vx_calli {S SX : Type} {post : Int32 → S → Prop} {px : SX → Prop} {B : S → State → Prop} {BX : String → SX → State → Prop} {AX : Nat → Prop} (hr : vx_Run p l e R s m args below meth c H locs cells slots mc ms (F0 m pc ls st0) rest (va_Qi post B A1 a) (vx_X px BX AX) free) (hS : va_S A0 H0 H locs) (hA : ∀ q, q < H.size → A1 q → A0 q) (hf : ∀ q, free q → A0 q) (hAX : ∀ q, q < H.size → AX q → A0 q)
    (kx : ∀ (E : String) (ce : Cell) (q9 : Addr) (u : SX) (t : State) (H1 : Heap) (locs1 : List Loc), t.heap = H1 → s.vm.Alike t.vm → px u → BX E u t → H.size ≤ H1.size → (∀ q : Nat, q < H.size → ¬ AX q → H1[q]? = H[q]?) → va_S A0 H0 H1 locs1 → H1[q9]? = some ce → ce.vm = .none → s.vm.findClass E = some ce.cls → vx_W p l e R s m args below meth c H1 locs1 (cells + mc) (slots + ms) Q (F0 m pc ls rest) q9)
    (kk : ∀ (r : Int32) (u : S) (t : State) (H1 : Heap) (locs1 : List Loc), t.heap = H1 → s.vm.Alike t.vm → post r u → B u t → H.size ≤ H1.size → (∀ q : Nat, q < H.size → ¬ A1 q → H1[q]? = H[q]?) → va_S A0 H0 H1 locs1 → W p l e R s m args below meth c H1 locs1 (cells + mc) (slots + ms) Q (F0 m (pc + 3) ls (.int r :: rest))) : W p l e R s m args below meth c H locs cells slots Q (F0 m pc ls st0) := by
  intro T hT X
  rcases hr T hT X with ⟨v, st₀, t, T', L, h0, X', hL, e1, e2, ⟨⟨r, u, hv, hp, hb⟩, hF⟩, st⟩ | ⟨q, st₀, t, T', L, E, ce, h0, X', hL, e1, e2, ⟨u, hp, hb, hF⟩, hce, hcv, hcl, st⟩
  · cases hv
    obtain ⟨k1, k2, k3⟩ := vx_keep h0 e1 hS hA hf hL hF
    obtain ⟨t2, a1, b1⟩ := kk r u t T'.heap (locs ++ L) e1.symm (by rw [← e2]; exact X'.warmed.alike) hp hb k1 k2 k3 T' rfl X'
    exact ⟨t2, st t2 a1, b1⟩
  · obtain ⟨k1, k2, k3⟩ := vx_keep h0 e1 hS hAX hf hL hF
    obtain ⟨t2, a1, b1⟩ := kx E ce q u t T'.heap (locs ++ L) e1.symm (by rw [← e2]; exact X'.warmed.alike) hp hb k1 k2 k3 (by rw [e1]; exact hce) hcv hcl T' rfl X'
    exact ⟨t2, st.trans a1, b1⟩
theorem vx_calll {S SX : Type} {post : Int64 → S → Prop} {px : SX → Prop} {B : S → State → Prop} {BX : String → SX → State → Prop} {AX : Nat → Prop} (hr : vx_Run p l e R s m args below meth c H locs cells slots mc ms (F0 m pc ls st0) rest (va_Ql post B A1 a) (vx_X px BX AX) free) (hS : va_S A0 H0 H locs) (hA : ∀ q, q < H.size → A1 q → A0 q) (hf : ∀ q, free q → A0 q) (hAX : ∀ q, q < H.size → AX q → A0 q)
    (kx : ∀ (E : String) (ce : Cell) (q9 : Addr) (u : SX) (t : State) (H1 : Heap) (locs1 : List Loc), t.heap = H1 → s.vm.Alike t.vm → px u → BX E u t → H.size ≤ H1.size → (∀ q : Nat, q < H.size → ¬ AX q → H1[q]? = H[q]?) → va_S A0 H0 H1 locs1 → H1[q9]? = some ce → ce.vm = .none → s.vm.findClass E = some ce.cls → vx_W p l e R s m args below meth c H1 locs1 (cells + mc) (slots + ms) Q (F0 m pc ls rest) q9)
    (kk : ∀ (r : Int64) (u : S) (t : State) (H1 : Heap) (locs1 : List Loc), t.heap = H1 → s.vm.Alike t.vm → post r u → B u t → H.size ≤ H1.size → (∀ q : Nat, q < H.size → ¬ A1 q → H1[q]? = H[q]?) → va_S A0 H0 H1 locs1 → W p l e R s m args below meth c H1 locs1 (cells + mc) (slots + ms) Q (F0 m (pc + 3) ls (.long r :: rest))) : W p l e R s m args below meth c H locs cells slots Q (F0 m pc ls st0) := by
  intro T hT X
  rcases hr T hT X with ⟨v, st₀, t, T', L, h0, X', hL, e1, e2, ⟨⟨r, u, hv, hp, hb⟩, hF⟩, st⟩ | ⟨q, st₀, t, T', L, E, ce, h0, X', hL, e1, e2, ⟨u, hp, hb, hF⟩, hce, hcv, hcl, st⟩
  · cases hv
    obtain ⟨k1, k2, k3⟩ := vx_keep h0 e1 hS hA hf hL hF
    obtain ⟨t2, a1, b1⟩ := kk r u t T'.heap (locs ++ L) e1.symm (by rw [← e2]; exact X'.warmed.alike) hp hb k1 k2 k3 T' rfl X'
    exact ⟨t2, st t2 a1, b1⟩
  · obtain ⟨k1, k2, k3⟩ := vx_keep h0 e1 hS hAX hf hL hF
    obtain ⟨t2, a1, b1⟩ := kx E ce q u t T'.heap (locs ++ L) e1.symm (by rw [← e2]; exact X'.warmed.alike) hp hb k1 k2 k3 (by rw [e1]; exact hce) hcv hcl T' rfl X'
    exact ⟨t2, st.trans a1, b1⟩
theorem vx_callf {S SX : Type} {post : UInt32 → S → Prop} {px : SX → Prop} {B : S → State → Prop} {BX : String → SX → State → Prop} {AX : Nat → Prop} (hr : vx_Run p l e R s m args below meth c H locs cells slots mc ms (F0 m pc ls st0) rest (va_Qf post B A1 a) (vx_X px BX AX) free) (hS : va_S A0 H0 H locs) (hA : ∀ q, q < H.size → A1 q → A0 q) (hf : ∀ q, free q → A0 q) (hAX : ∀ q, q < H.size → AX q → A0 q)
    (kx : ∀ (E : String) (ce : Cell) (q9 : Addr) (u : SX) (t : State) (H1 : Heap) (locs1 : List Loc), t.heap = H1 → s.vm.Alike t.vm → px u → BX E u t → H.size ≤ H1.size → (∀ q : Nat, q < H.size → ¬ AX q → H1[q]? = H[q]?) → va_S A0 H0 H1 locs1 → H1[q9]? = some ce → ce.vm = .none → s.vm.findClass E = some ce.cls → vx_W p l e R s m args below meth c H1 locs1 (cells + mc) (slots + ms) Q (F0 m pc ls rest) q9)
    (kk : ∀ (r : UInt32) (u : S) (t : State) (H1 : Heap) (locs1 : List Loc), t.heap = H1 → s.vm.Alike t.vm → post r u → B u t → H.size ≤ H1.size → (∀ q : Nat, q < H.size → ¬ A1 q → H1[q]? = H[q]?) → va_S A0 H0 H1 locs1 → W p l e R s m args below meth c H1 locs1 (cells + mc) (slots + ms) Q (F0 m (pc + 3) ls (.float r :: rest))) : W p l e R s m args below meth c H locs cells slots Q (F0 m pc ls st0) := by
  intro T hT X
  rcases hr T hT X with ⟨v, st₀, t, T', L, h0, X', hL, e1, e2, ⟨⟨r, u, hv, hp, hb⟩, hF⟩, st⟩ | ⟨q, st₀, t, T', L, E, ce, h0, X', hL, e1, e2, ⟨u, hp, hb, hF⟩, hce, hcv, hcl, st⟩
  · cases hv
    obtain ⟨k1, k2, k3⟩ := vx_keep h0 e1 hS hA hf hL hF
    obtain ⟨t2, a1, b1⟩ := kk r u t T'.heap (locs ++ L) e1.symm (by rw [← e2]; exact X'.warmed.alike) hp hb k1 k2 k3 T' rfl X'
    exact ⟨t2, st t2 a1, b1⟩
  · obtain ⟨k1, k2, k3⟩ := vx_keep h0 e1 hS hAX hf hL hF
    obtain ⟨t2, a1, b1⟩ := kx E ce q u t T'.heap (locs ++ L) e1.symm (by rw [← e2]; exact X'.warmed.alike) hp hb k1 k2 k3 (by rw [e1]; exact hce) hcv hcl T' rfl X'
    exact ⟨t2, st.trans a1, b1⟩
theorem vx_calld {S SX : Type} {post : UInt64 → S → Prop} {px : SX → Prop} {B : S → State → Prop} {BX : String → SX → State → Prop} {AX : Nat → Prop} (hr : vx_Run p l e R s m args below meth c H locs cells slots mc ms (F0 m pc ls st0) rest (va_Qd post B A1 a) (vx_X px BX AX) free) (hS : va_S A0 H0 H locs) (hA : ∀ q, q < H.size → A1 q → A0 q) (hf : ∀ q, free q → A0 q) (hAX : ∀ q, q < H.size → AX q → A0 q)
    (kx : ∀ (E : String) (ce : Cell) (q9 : Addr) (u : SX) (t : State) (H1 : Heap) (locs1 : List Loc), t.heap = H1 → s.vm.Alike t.vm → px u → BX E u t → H.size ≤ H1.size → (∀ q : Nat, q < H.size → ¬ AX q → H1[q]? = H[q]?) → va_S A0 H0 H1 locs1 → H1[q9]? = some ce → ce.vm = .none → s.vm.findClass E = some ce.cls → vx_W p l e R s m args below meth c H1 locs1 (cells + mc) (slots + ms) Q (F0 m pc ls rest) q9)
    (kk : ∀ (r : UInt64) (u : S) (t : State) (H1 : Heap) (locs1 : List Loc), t.heap = H1 → s.vm.Alike t.vm → post r u → B u t → H.size ≤ H1.size → (∀ q : Nat, q < H.size → ¬ A1 q → H1[q]? = H[q]?) → va_S A0 H0 H1 locs1 → W p l e R s m args below meth c H1 locs1 (cells + mc) (slots + ms) Q (F0 m (pc + 3) ls (.double r :: rest))) : W p l e R s m args below meth c H locs cells slots Q (F0 m pc ls st0) := by
  intro T hT X
  rcases hr T hT X with ⟨v, st₀, t, T', L, h0, X', hL, e1, e2, ⟨⟨r, u, hv, hp, hb⟩, hF⟩, st⟩ | ⟨q, st₀, t, T', L, E, ce, h0, X', hL, e1, e2, ⟨u, hp, hb, hF⟩, hce, hcv, hcl, st⟩
  · cases hv
    obtain ⟨k1, k2, k3⟩ := vx_keep h0 e1 hS hA hf hL hF
    obtain ⟨t2, a1, b1⟩ := kk r u t T'.heap (locs ++ L) e1.symm (by rw [← e2]; exact X'.warmed.alike) hp hb k1 k2 k3 T' rfl X'
    exact ⟨t2, st t2 a1, b1⟩
  · obtain ⟨k1, k2, k3⟩ := vx_keep h0 e1 hS hAX hf hL hF
    obtain ⟨t2, a1, b1⟩ := kx E ce q u t T'.heap (locs ++ L) e1.symm (by rw [← e2]; exact X'.warmed.alike) hp hb k1 k2 k3 (by rw [e1]; exact hce) hcv hcl T' rfl X'
    exact ⟨t2, st.trans a1, b1⟩
theorem vx_callv {S SX : Type} {post : S → Prop} {px : SX → Prop} {B : S → State → Prop} {BX : String → SX → State → Prop} {AX : Nat → Prop} (hr : vx_Run p l e R s m args below meth c H locs cells slots mc ms (F0 m pc ls st0) rest (va_Qv post B A1 a) (vx_X px BX AX) free) (hS : va_S A0 H0 H locs) (hA : ∀ q, q < H.size → A1 q → A0 q) (hf : ∀ q, free q → A0 q) (hAX : ∀ q, q < H.size → AX q → A0 q)
    (kx : ∀ (E : String) (ce : Cell) (q9 : Addr) (u : SX) (t : State) (H1 : Heap) (locs1 : List Loc), t.heap = H1 → s.vm.Alike t.vm → px u → BX E u t → H.size ≤ H1.size → (∀ q : Nat, q < H.size → ¬ AX q → H1[q]? = H[q]?) → va_S A0 H0 H1 locs1 → H1[q9]? = some ce → ce.vm = .none → s.vm.findClass E = some ce.cls → vx_W p l e R s m args below meth c H1 locs1 (cells + mc) (slots + ms) Q (F0 m pc ls rest) q9)
    (kk : ∀ (u : S) (t : State) (H1 : Heap) (locs1 : List Loc), t.heap = H1 → s.vm.Alike t.vm → post u → B u t → H.size ≤ H1.size → (∀ q : Nat, q < H.size → ¬ A1 q → H1[q]? = H[q]?) → va_S A0 H0 H1 locs1 → W p l e R s m args below meth c H1 locs1 (cells + mc) (slots + ms) Q (F0 m (pc + 3) ls (rest))) : W p l e R s m args below meth c H locs cells slots Q (F0 m pc ls st0) := by
  intro T hT X
  rcases hr T hT X with ⟨v, st₀, t, T', L, h0, X', hL, e1, e2, ⟨⟨u, hv, hp, hb⟩, hF⟩, st⟩ | ⟨q, st₀, t, T', L, E, ce, h0, X', hL, e1, e2, ⟨u, hp, hb, hF⟩, hce, hcv, hcl, st⟩
  · cases hv
    obtain ⟨k1, k2, k3⟩ := vx_keep h0 e1 hS hA hf hL hF
    obtain ⟨t2, a1, b1⟩ := kk u t T'.heap (locs ++ L) e1.symm (by rw [← e2]; exact X'.warmed.alike) hp hb k1 k2 k3 T' rfl X'
    exact ⟨t2, st t2 a1, b1⟩
  · obtain ⟨k1, k2, k3⟩ := vx_keep h0 e1 hS hAX hf hL hF
    obtain ⟨t2, a1, b1⟩ := kx E ce q u t T'.heap (locs ++ L) e1.symm (by rw [← e2]; exact X'.warmed.alike) hp hb k1 k2 k3 (by rw [e1]; exact hce) hcv hcl T' rfl X'
    exact ⟨t2, st.trans a1, b1⟩
/-- caught by the row x of this method's table; the rows ahead don't take it -/
theorem vx_catch {own name : String} {E : String} {ce : Cell} {q : Addr} (hown : s.vm.findClass own = some m.cls) (pre : List ExceptionTableEntry) (x : ExceptionTableEntry) (suf : List ExceptionTableEntry) (hsplit : c.exceptionTable.toList = pre ++ x :: suf)
    (hpass : ∀ z ∈ pre, covers z pc = false ∨ (z.catchType ≠ 0 ∧ ∃ nm : String, (Cond.classLink own z.catchType nm).before args s = true ∧ va_Nc E nm s)) (hx : covers x pc = true) (h0 : x.catchType ≠ 0)
    (hlink : (Cond.classLink own x.catchType name).before args s = true) (hcast : (Cond.castable E name).before args s = true) (hcell : H[q]? = some ce) (hv : ce.vm = .none) (hcl : s.vm.findClass E = some ce.cls)
    (kk : W p l e R s m args below meth c H locs cells slots Q (F0 m x.handlerPc ls [.ref q])) : vx_W p l e R s m args below meth c H locs cells slots Q (F0 m pc ls rest) q := by
  intro T hT X
  have hpl : e.platform.magicAccessors = ({} : Platform).magicAccessors := by rw [X.admits.platform]
  obtain ⟨c3, c4, hc3, hc4, hasg⟩ := Cond.castable_spec hcast
  cases Option.some.inj (hc3.symm.trans hcl)
  obtain ⟨c5, hc5, hcl5⟩ := Cond.classLink_spec hown hlink e.platform hpl
  cases Option.some.inj (hc4.symm.trans hc5)
  obtain ⟨vm', X', st⟩ := X.thenCaughtThrough q (g := F0 m pc ls rest) rfl (Steps.refl _) (by rw [hT]; exact hcell) (by rw [hv]; rfl) (by obtain ⟨k9, h9, -⟩ := Vm.findClass_spec hcl; exact ⟨k9, h9⟩) pre x suf hsplit
    (fun z hz => by
      rcases hpass z hz with h | ⟨hz0, nm, hl1, hn1⟩
      · exact Or.inl h
      · obtain ⟨c6, hc6, hcl6⟩ := Cond.classLink_spec hown hl1 e.platform hpl
        obtain ⟨a8, b8, h1, h2, h3⟩ := hn1
        cases Option.some.inj (h1.symm.trans hcl)
        cases Option.some.inj (h2.symm.trans hc6)
        exact Or.inr ⟨hz0, _, hcl6, h3⟩) hx (Or.inr ⟨h0, c4, hcl5, hasg⟩)
  obtain ⟨t, a1, b1⟩ := kk (T.setVm vm') hT X'
  exact ⟨t, st.trans a1, b1⟩
end Rows
section Ends
variable {p : Program} {l : Launch} {e : Env} {R : Room} {s : State} {m : MethodId} {args : Array Value} {below : List Frame} {meth : Method} {c : Code} {H : Heap} {locs : List Loc} {cells slots : Nat} {Q : State → Prop}
variable {mc ms : Nat} {free : Addr → Prop} {A0 A1 : Nat → Prop} {H0 : Heap} {a : Array Value} {ls : Array Slot} {st0 rest : List Value}
variable {Qc : Array Value → State → Outcome → State → Prop} {XC : String → State → State → Prop}
/-- what a body that may throw owes at its end -/
def vx_MQ (below : List Frame) (Qc : Array Value → State → Outcome → State → Prop) (XC : String → State → State → Prop) (a : Array Value) (s : State) (mc ms : Nat) (free : Addr → Prop) : State → Prop := fun t =>
  ∃ o, t.status = .running ∧ Ended t below o ∧ vx_Q Qc XC mc ms free a s o t
theorem vx_ret {g : JFrame} {mc ms : Nat} (k : W p l e R s m args below meth c H locs cells slots (MQ below Qc args s mc ms free) g) : W p l e R s m args below meth c H locs cells slots (vx_MQ below Qc XC args s mc ms free) g := by
  intro T hT X
  obtain ⟨t, a1, o, b1, b2, b3, b4⟩ := k T hT X
  exact ⟨t, a1, o, b1, b2, Or.inl ⟨b3, b4⟩⟩
/-- not caught here: it goes on to the caller -/
theorem vx_widen {g : JFrame} {q : Addr} {k n : Nat} (h1 : cells ≤ k) (h2 : slots ≤ n) (kk : vx_W p l e R s m args below meth c H locs k n Q g q) : vx_W p l e R s m args below meth c H locs cells slots Q g q := fun T hT X => kk T hT (stand_widen X h1 h2)
theorem vx_out {pc : Nat} {E : String} {ce : Cell} {q : Addr} {mc ms : Nat} (hout : ∀ x ∈ c.exceptionTable.toList, covers x pc = false) (hlocks : meth.locks = false) (hcell : H[q]? = some ce) (hv : ce.vm = .none) (hcl : s.vm.findClass E = some ce.cls)
    (hx : ∀ t : State, t.heap = H → s.vm.Alike t.vm → XC E s t) (hf : ∀ z ∈ locs, free z.base) (hc : cells ≤ mc) (hs : slots ≤ ms) :
    vx_W p l e R s m args below meth c H locs cells slots (vx_MQ below Qc XC args s mc ms free) (F0 m pc ls rest) q := by
  intro T hT X
  obtain ⟨st1, hrun, hend, hW, hsm⟩ := X.leaveThrown q (g := F0 m pc ls rest) rfl rfl rfl hout hlocks
  have hcell9 : (T.setFrames (.throwing q :: below)).heap[q]? = some ce := by
    show T.heap[q]? = some ce
    rw [hT]; exact hcell
  exact ⟨_, st1, .threw q, hrun, hend, Or.inr ⟨q, rfl, E, ce, locs, hx _ hT hW.alike, hcell9, hv, hcl, hW, hsm.mono hc hs, hf⟩⟩
theorem vx_frame {U : State} {k n : Nat} (h : s.sameButNew ({ U with vm := s.vm } : State) locs k n) : s.heap.size ≤ U.heap.size ∧ ∀ q : Nat, q < s.heap.size → (∀ z ∈ locs, z.base ≠ q) → U.heap[q]? = s.heap[q]? := by
  obtain ⟨-, h2, -, -, -, h6⟩ := h
  refine ⟨h2, fun q hq hz => ?_⟩
  obtain ⟨c9, e1, e2, e3, e4⟩ := h6 q _ (Array.getElem?_eq_getElem hq)
  have hs : c9.slots = (s.heap[q]).slots := Array.ext_getElem? fun i => e4 i fun hm => hz _ hm rfl
  have h9 : c9 = s.heap[q] := by
    rw [hs] at e2
    exact e2
  have e5 : U.heap[q]? = some c9 := e1
  rw [e5, h9, Array.getElem?_eq_getElem hq]
/-- the words of a throw but the four that speak of the heap -/
def vx_no (w : Cond) : Bool := decide (w ≠ .isRef (.static Bundle.tN "UNASSIGNED_STACK" Bundle.steD)) && decide (w ≠ .isRef (.static Bundle.tN "SUPPRESSED_SENTINEL" Bundle.listD)) && decide (w ≠ .laysStatic Bundle.tN "UNASSIGNED_STACK" Bundle.steD) && decide (w ≠ .laysStatic Bundle.tN "SUPPRESSED_SENTINEL" Bundle.listD)
def vx_at0 (own : String) (ic : Nat) (X : String) (names : List String) : List Cond := (Bundle.ownAtoms0 own ic X names).filter vx_no
def vx_atS (own : String) (ic : Nat) (X : String) (names : List String) : List Cond := (Bundle.ownAtoms own ic X names).filter vx_no
/-- a word that the tables alone decide, or a good one -/
def vx_ot (w : Cond) : Bool := w.onTables || goodWord w
theorem vx_ot_at {args a' : Array Value} {s U : State} {w : Cond} (hW : s.WarmedH U.vm) (hvm : s.vm = U.vm) (hg : vx_ot w = true) (h : w.before args s = true) : w.before a' U = true := by
  simp only [vx_ot, Bool.or_eq_true] at hg
  rcases hg with hg | hg
  · exact va_tabs hg hvm h
  · exact word_at hW (good_of_word hg) h
/-- a list's words: the good ones out of the method's own list, the others by premises of their own -/
theorem vx_hat {args : Array Value} {s : State} {L B : List Cond} (h1 : ∀ w ∈ L.filter goodWord, w.before args s = true) (h2 : ∀ w ∈ L.filter (fun w => !goodWord w), w ∈ B) (h3 : ∀ w ∈ B, w.before args s = true) : ∀ w ∈ L, w.before args s = true := by
  intro w hw
  by_cases g : goodWord w = true
  · exact h1 w (List.mem_filter.mpr ⟨hw, g⟩)
  · refine h3 w (h2 w (List.mem_filter.mpr ⟨hw, ?_⟩))
    show (!goodWord w) = true
    cases hgw : goodWord w
    · rfl
    · exact absurd hgw g
theorem vx_c {args : Array Value} {s : State} {w : Cond} {B : List Cond} (h : w.before args s = true) (t : ∀ w ∈ B, w.before args s = true) : ∀ w' ∈ w :: B, w'.before args s = true := fun w' h' => (List.mem_cons.mp h').elim (fun e => by rw [e]; exact h) (t w')
theorem vx_n {args : Array Value} {s : State} : ∀ w ∈ ([] : List Cond), w.before args s = true := fun _ h => nomatch h
theorem vx_own {args : Array Value} {s : State} {L : List Cond} (h1 : ∀ w ∈ L.filter vx_no, w.before args s = true)
    (hU : (Cond.isRef (.static Bundle.tN "UNASSIGNED_STACK" Bundle.steD)).before args s = true) (hN : (Cond.isRef (.static Bundle.tN "SUPPRESSED_SENTINEL" Bundle.listD)).before args s = true)
    (lU : (Cond.laysStatic Bundle.tN "UNASSIGNED_STACK" Bundle.steD).before args s = true) (lN : (Cond.laysStatic Bundle.tN "SUPPRESSED_SENTINEL" Bundle.listD).before args s = true) : ∀ w ∈ L, w.before args s = true := by
  intro w hw
  by_cases e1 : w = .isRef (.static Bundle.tN "UNASSIGNED_STACK" Bundle.steD)
  · rw [e1]; exact hU
  · by_cases e2 : w = .isRef (.static Bundle.tN "SUPPRESSED_SENTINEL" Bundle.listD)
    · rw [e2]; exact hN
    · by_cases e3 : w = .laysStatic Bundle.tN "UNASSIGNED_STACK" Bundle.steD
      · rw [e3]; exact lU
      · by_cases e4 : w = .laysStatic Bundle.tN "SUPPRESSED_SENTINEL" Bundle.listD
        · rw [e4]; exact lN
        · exact h1 w (List.mem_filter.mpr ⟨hw, by unfold vx_no; rw [decide_eq_true e1, decide_eq_true e2, decide_eq_true e3, decide_eq_true e4]; rfl⟩)
/-- where a static field lies, its class's statics cell in H -/
def vx_L (C n d : String) (A : Nat → Prop) (U : State) (H : Heap) : Prop := ∃ (c : ClassId) (k : Class) (i : Nat) (f : Field) (a : Nat) (cell : Cell), U.vm.findClass C = some c ∧ U.fieldFound? C n d = some (c, k, i, f) ∧ f.isStatic = true ∧ k.statics = some a ∧ H[a]? = some cell ∧ cell.vm.isStatics = true ∧ cell.cls = c ∧ f.slot < cell.slots.size ∧ k.staticTypes[f.slot]? = some f.type ∧ ¬ A a
theorem vx_L.moved {C n d : String} {A : Nat → Prop} {u U : State} {H : Heap} (hvm : u.vm.Alike U.vm) (h : vx_L C n d A u H) : vx_L C n d A U H := by
  obtain ⟨c, k, i, f, a, cell, h1, h2, h3, h4, h5, h6, h7, h8, h9, h10⟩ := h
  obtain ⟨k', hi', he⟩ := State.fieldFound?_setVm hvm h2
  exact ⟨c, k', i, f, a, cell, by rw [hvm.findClass]; exact h1, hi', h3, by rw [he]; exact h4, h5, h6, h7, h8, by rw [he]; exact h9, h10⟩
theorem vx_L.kept {C n d : String} {A : Nat → Prop} {U : State} {H H1 : Heap} (h : vx_L C n d A U H) (hq : ∀ a : Nat, a < H.size → ¬ A a → H1[a]? = H[a]?) : vx_L C n d A U H1 := by
  obtain ⟨c, k, i, f, a, cell, h1, h2, h3, h4, h5, h6, h7, h8, h9, h10⟩ := h
  exact ⟨c, k, i, f, a, cell, h1, h2, h3, h4, by rw [hq a (Array.getElem?_eq_some_iff.mp h5).1 h10]; exact h5, h6, h7, h8, h9, h10⟩
theorem vx_L.narrow {C n d : String} {A B : Nat → Prop} {U : State} {H : Heap} (h : vx_L C n d A U H) (hAB : ∀ q, B q → A q) : vx_L C n d B U H := by
  obtain ⟨c, k, i, f, a, cell, h1, h2, h3, h4, h5, h6, h7, h8, h9, h10⟩ := h
  exact ⟨c, k, i, f, a, cell, h1, h2, h3, h4, h5, h6, h7, h8, h9, fun z => h10 (hAB _ z)⟩
theorem vx_L.word {C n d : String} {A : Nat → Prop} {s : State} {args : Array Value} (h : vx_L C n d A s s.heap) : (Cond.laysStatic C n d).before args s = true := by
  obtain ⟨c, k, i, f, a, cell, h1, h2, h3, h4, h5, h6, h7, h8, h9, -⟩ := h
  show (Cond.laysStatic C n d).holds args s none s [] = true
  exact Cond.laysStatic_of h1 h2 h3 h4 h5 h6 h7 h8 h9
/-- .. and what it holds: null or some reference -/
def vx_Zq (C n d : String) (A : Nat → Prop) (U : State) (H : Heap) : Prop := va_Zq C n d A U H ∧ vx_L C n d A U H
theorem vx_Zq.moved {C n d : String} {A : Nat → Prop} {u U : State} {H : Heap} (hvm : u.vm.Alike U.vm) (h : vx_Zq C n d A u H) : vx_Zq C n d A U H := ⟨va_Zq.moved hvm h.1, vx_L.moved hvm h.2⟩
theorem vx_Zq.kept {C n d : String} {A : Nat → Prop} {U : State} {H H1 : Heap} (h : vx_Zq C n d A U H) (hq : ∀ a : Nat, a < H.size → ¬ A a → H1[a]? = H[a]?) : vx_Zq C n d A U H1 := ⟨va_Zq.kept h.1 hq, vx_L.kept h.2 hq⟩
theorem vx_Zq.narrow {C n d : String} {A B : Nat → Prop} {U : State} {H : Heap} (h : vx_Zq C n d A U H) (hAB : ∀ q, B q → A q) : vx_Zq C n d B U H := ⟨va_Zq.narrow h.1 hAB, vx_L.narrow h.2 hAB⟩
theorem vx_Zqof {args : Array Value} {s : State} {C n d : String} {A : Nat → Prop} (hl : (Cond.laysStatic C n d).before args s = true) (hini : (Cond.initialized C).before args s = true) (h : (Cond.isRef (.static C n d)).before args s = true) (hA : ∀ a : Nat, a < s.heap.size → ¬ A a) : vx_Zq C n d A s s.heap := by
  refine ⟨va_Zqof hl hini h hA, ?_⟩
  obtain ⟨c, k, i, f, a, cell, h1, h2, h3, h4, h5, h6, h7, h8, h9⟩ := Cond.laysStatic_spec hl
  exact ⟨c, k, i, f, a, cell, h1, h2, h3, h4, h5, h6, h7, h8, h9, hA a (Array.getElem?_eq_some_iff.mp h5).1⟩
theorem vx_isRef {C n d : String} {v : Value} {A : Nat → Prop} {s : State} {args : Array Value} (h : va_Z C n d v A s s.heap) (hv : v.isRef = true) : (Cond.isRef (.static C n d)).before args s = true := by
  obtain ⟨cf, kf, fi, f, a, cell, h1, h2, h3, h4, h5, h6, h7, -⟩ := h
  have he : (Term.static C n d).eval args s none [] s = some v := by
    simp [Term.eval, State.fieldNamed?, h1, h2, h4, h5, h6, h7]
  simp only [Cond.before, Cond.holds, Cond.value, he]
  cases v <;> simp_all [Value.isRef]
theorem vx_isRefq {C n d : String} {A : Nat → Prop} {s : State} {args : Array Value} (h : va_Zq C n d A s s.heap) : (Cond.isRef (.static C n d)).before args s = true := by
  rcases h with h | ⟨t, h⟩
  · exact vx_isRef h rfl
  · exact vx_isRef h rfl
/-- the same frame, seen from here: as if the method were called anew in this heap -/
theorem vx_rebase {T : State} (X : Stand p l e R s m args below meth c T locs cells slots) {R' : Room} (hf : R'.frames ≤ R.frames) (hl : R'.locals ≤ R.locals) (hc : cells + R'.cells ≤ R.cells) (hs : slots + R'.slots ≤ R.slots) :
    Stand p l e R' ((T.setVm s.vm).setFrames (.invoking m args :: below)) m args below meth c T [] 0 0 := by
  have htop : (T.setVm s.vm).topJava?.isSome := X.here.top
  have hF : ((T.setVm s.vm).setFrames (.invoking m args :: below)).frames = .invoking m args :: below := State.frames_setFrames _ (State.cur_lt_of_top htop)
  obtain ⟨g₀, hg0⟩ := Option.isSome_iff_exists.mp htop
  obtain ⟨r, hr⟩ := State.topJava?_eq_some.mp hg0
  have hl9 : e.platform.stackLimits (T.setVm s.vm).me = e.platform.stackLimits s.me := X.limits
  have hb9 : (T.setVm s.vm).me.stackBytes = s.me.stackBytes := X.bytes
  refine ⟨X.admits, X.cas, X.clock, hF, ?_, X.hears, X.method, X.code, X.here, X.tail, X.warmed, ?_, ?_, ?_⟩
  · have h := X.room
    have hU : ((T.setVm s.vm).setFrames (.invoking m args :: below)).localsInUse = s.localsInUse := by
      rw [State.localsInUse_invoking hF (meth := meth) (c := c) X.method X.code, State.localsInUse_invoking X.frames X.method X.code]
    simp only [State.hasRoom, Bool.and_eq_true, decide_eq_true_eq] at h ⊢
    obtain ⟨⟨⟨⟨h1, h2, h3, h4, h5, h6⟩, h7⟩, h8⟩, h9⟩ := h
    rw [X.frames, List.length_cons] at h2 h3
    have q1 := X.heapSize
    have q2 := X.used
    simp only [hF, hU, List.length_cons, State.stackLimits_setFrames, State.stackBytes_setFrames, hl9, hb9]
    refine ⟨⟨⟨⟨by omega, by omega, by omega, by omega, by omega, h6⟩, ?_⟩, ?_⟩, X.book⟩
    · show T.heap.size + R'.cells ≤ e.platform.maxCells
      omega
    · show T.slotsUsed + R'.slots ≤ e.platform.maxSlots
      omega
  · rw [State.stackLimits_setFrames]; rfl
  · rw [State.stackBytes_setFrames]; rfl
  · refine ⟨?_, Nat.le_refl _, Nat.le_refl _, ?_, ?_, fun a c9 h9 => ⟨c9, h9, rfl, rfl, fun _ _ => rfl⟩⟩
    · obtain ⟨t, ht, -⟩ := State.frames_cons hr
      show T.setVm s.vm = { ((T.setVm s.vm).setFrames (.invoking m args :: below)).setFrames (T.setVm s.vm).frames with heap := T.heap, slotsUsed := T.slotsUsed }
      rw [State.setFrames_setFrames, State.setFrames_self ht]
      rfl
    · show T.slotsUsed = T.slotsUsed + ((T.heap.toList.drop T.heap.size).map (·.slots.size)).sum
      rw [List.drop_eq_nil_of_le (Nat.le_of_eq Array.length_toList)]
      rfl
    · show ((T.heap.toList.drop T.heap.size).map (·.slots.size)).sum ≤ 0
      rw [List.drop_eq_nil_of_le (Nat.le_of_eq Array.length_toList)]
      exact Nat.le_refl _
/-- 'throw new E()': new; dup; invokespecial; athrow -/
theorem vx_throw0 {cc : ByteArray} {pc : Nat} (hexec : p.tables.exec = Jvm.exec) (hb : c.code = cc) (hl : l.stackTraces = false) {own cls : String} {names : List String} {ik ic mc ms : Nat} {A : Nat → Prop}
    (hown : s.vm.findClass own = some m.cls) (hcls : Bundle.fit cls = true) (hnames : ∀ n ∈ names, Bundle.fit n = true)
    (hk : (Cond.classLink own ik cls).before args s = true) (hini : (Cond.initialized cls).before args s = true) (hat : ∀ w ∈ vx_at0 own ic cls names, w.before args s = true)
    (hgood : ∀ w ∈ Cond.classLink own ik cls :: Cond.initialized cls :: vx_at0 own ic cls names, vx_ot w = true)
    (hU : vx_Zq Bundle.tN "UNASSIGNED_STACK" Bundle.steD A s s.heap) (hN : vx_Zq Bundle.tN "SUPPRESSED_SENTINEL" Bundle.listD A s s.heap) (hS : va_S A s.heap H locs) (hsize : ls.size = c.maxLocals)
    (d0 : decode cc pc = .ok (.new ik, 3)) (d3 : decode cc (pc + 3) = .ok (.dup, 1)) (d4 : decode cc (pc + 4) = .ok (.invokespecial ic, 3)) (d7 : decode cc (pc + 7) = .ok (.athrow, 1))
    (hout : ∀ x ∈ c.exceptionTable.toList, covers x (pc + 7) = false)
    (hRframes : names.length + 3 < R.frames) (hRlocals : (rest.map fun v => v.category).sum + (13 * (names.length + 1) + 42) ≤ R.locals) (hRcells : cells + 1 ≤ R.cells) (hRslots : slots + 6 ≤ R.slots) (hlocks : meth.locks = false)
    (hx : ∀ t : State, s.vm.Alike t.vm → H.size ≤ t.heap.size → (∀ q : Nat, q < H.size → t.heap[q]? = H[q]?) → XC cls s t)
    (hf : ∀ z ∈ locs, free z.base) (hc : cells + 1 ≤ mc) (hs : slots + 6 ≤ ms) :
    W p l e R s m args below meth c H locs cells slots (vx_MQ below Qc XC args s mc ms free) (F0 m pc ls rest) := by
  intro T hT X
  have htr : e.platform.stackTraces = false := (show e.platform.stackTraces = l.stackTraces by rw [X.admits.platform]).trans hl
  have Y := vx_rebase X (R' := { frames := R.frames, locals := R.locals, cells := 1, slots := 6 }) (Nat.le_refl _) (Nat.le_refl _) hRcells hRslots
  obtain ⟨s', hA⟩ : ∃ z, z = (T.setVm s.vm).setFrames (.invoking m args :: below) := ⟨_, rfl⟩
  rw [← hA] at Y
  have hvm : s'.vm = s.vm := by rw [hA]; rfl
  have hhp : s'.heap = H := by rw [hA]; exact hT
  have hW0 : s.WarmedH s'.vm := by rw [hvm]; exact State.WarmedH.refl s
  have hat' : ∀ w ∈ vx_at0 own ic cls names, w.before args s' = true := fun w hw => vx_ot_at hW0 hvm.symm (hgood w (List.mem_cons_of_mem _ (List.mem_cons_of_mem _ hw))) (hat w hw)
  have hk' : (Cond.classLink own ik cls).before args s' = true := vx_ot_at hW0 hvm.symm (hgood _ List.mem_cons_self) hk
  have hini' : (Cond.initialized cls).before args s' = true := vx_ot_at hW0 hvm.symm (hgood _ (List.mem_cons_of_mem _ List.mem_cons_self)) hini
  have hU' : vx_Zq Bundle.tN "UNASSIGNED_STACK" Bundle.steD A s' s'.heap := by rw [hhp]; exact vx_Zq.moved hW0.alike (hU.kept hS.2.1)
  have hN' : vx_Zq Bundle.tN "SUPPRESSED_SENTINEL" Bundle.listD A s' s'.heap := by rw [hhp]; exact vx_Zq.moved hW0.alike (hN.kept hS.2.1)
  have h : ∀ w ∈ Bundle.ownAtoms0 own ic cls names, w.before args s' = true := vx_own hat' (vx_isRefq hU'.1) (vx_isRefq hN'.1) hU'.2.word hN'.2.word
  have hown' : s'.vm.findClass own = some m.cls := by rw [hvm]; exact hown
  have hins : (Cond.instantiable cls 6).before args s' = true := h _ (by simp [Bundle.ownAtoms0])
  obtain ⟨vm₁, cX, kX, hfX, hkX, -, -, X₁, st1⟩ := Y.newCold hexec (own := own) (C := cls) (index := ik) (n := 6) hown' hk' hins hini'
    (g := F0 m pc ls rest) rfl (by rw [hb]; exact d0) (Nat.le_refl _) (Nat.le_refl _)
  generalize hT1 : (T.setVm vm₁).pushCell { cls := cX, slots := kX.instanceTypes.map defaultValue, vm := .none } = T1 at X₁ st1
  have hcat : (Value.ref T.heap.size).category = 1 := rfl
  have hcellA : T1.heap[T.heap.size]? = some (freshCell cX kX) := by rw [← hT1]; exact State.heap_pushCell_size _ _
  have d3' : decode c.code (pc + 3) = .ok (.dup, 1) := by rw [hb]; exact d3
  obtain ⟨U, hsteps, hrun, hend, hW, hsame, ce, hce, hO⟩ := X₁.ctorThrow0 hexec htr (own := own) (cls := cls) (names := names) (ic := ic) hown' hcls hnames h (fun x hx => nomatch hx) hfX hkX hcellA (by rw [hhp, hT]; exact Nat.le_refl _)
    (g := { method := m, pc := pc + 4, locals := ls, stack := .ref T.heap.size :: .ref T.heap.size :: rest, locked := none }) rfl hsize rfl rfl (rest := rest) rfl
    (by rw [hb]; exact d4) (by rw [hb]; exact d7) hout hRframes (by simp only [List.map_cons, List.sum_cons, hcat]; omega) hlocks
  obtain ⟨f1, f2⟩ := vx_frame hsame
  rw [hhp] at f1 f2
  have hWs : s.WarmedH U.vm := State.WarmedH.trans hW0 hW
  have hcl : s.vm.findClass cls = some ce.cls := by
    have h9 := hO.cls
    rw [hvm] at h9
    exact h9
  have hall : s.sameButNew ({ U with vm := s.vm } : State) locs mc ms := by
    subst hA
    obtain ⟨e1, e2⟩ := hsame
    rw [State.setFrames_setFrames] at e1
    have h2 : (T.setVm s.vm).sameButNew ({ U with vm := s.vm } : State) [] (0 + 1) (0 + 6) := ⟨e1, e2⟩
    have h3 := X.same.trans h2
    rw [List.append_nil] at h3
    exact h3.mono hc hs
  refine ⟨U, ?_, .threw T.heap.size, hrun, hend, Or.inr ⟨T.heap.size, rfl, cls, ce, locs, hx U hWs.alike f1 (fun q hq => f2 q hq (fun z hz => nomatch hz)), hce, hO.vm, hcl, hWs, hall, hf⟩⟩
  refine st1 _ ?_
  show Steps p.tables e below (T1.setTop { method := m, pc := pc + 3, locals := ls, stack := .ref T.heap.size :: rest, locked := none }) _
  jvm_step X₁.here [X₁.here.top, hexec, d3', Value.category]
  exact hsteps
/-- 'throw new E("text")': new; dup; ldc; invokespecial; athrow -/
theorem vx_throwS {cc : ByteArray} {pc : Nat} (hexec : p.tables.exec = Jvm.exec) (hb : c.code = cc) (hl : l.stackTraces = false) {own cls text : String} {names : List String} {ik is ic mc ms sa : Nat} {A : Nat → Prop}
    (hown : s.vm.findClass own = some m.cls) (hcls : Bundle.fit cls = true) (hnames : ∀ n ∈ names, Bundle.fit n = true)
    (hk : (Cond.classLink own ik cls).before args s = true) (hini : (Cond.initialized cls).before args s = true) (hstr : vk_R own is text sa s) (hat : ∀ w ∈ vx_atS own ic cls names, w.before args s = true)
    (hgood : ∀ w ∈ Cond.classLink own ik cls :: Cond.initialized cls :: vx_atS own ic cls names, vx_ot w = true)
    (hU : vx_Zq Bundle.tN "UNASSIGNED_STACK" Bundle.steD A s s.heap) (hN : vx_Zq Bundle.tN "SUPPRESSED_SENTINEL" Bundle.listD A s s.heap) (hS : va_S A s.heap H locs) (hsize : ls.size = c.maxLocals)
    (d0 : decode cc pc = .ok (.new ik, 3)) (d3 : decode cc (pc + 3) = .ok (.dup, 1)) (d4 : decode cc (pc + 4) = .ok (.ldc is, 2)) (d6 : decode cc (pc + 6) = .ok (.invokespecial ic, 3)) (d9 : decode cc (pc + 9) = .ok (.athrow, 1))
    (hout : ∀ x ∈ c.exceptionTable.toList, covers x (pc + 9) = false)
    (hRframes : names.length + 3 < R.frames) (hRlocals : (rest.map fun v => v.category).sum + (13 * (names.length + 1) + 43) ≤ R.locals) (hRcells : cells + 1 ≤ R.cells) (hRslots : slots + 6 ≤ R.slots) (hlocks : meth.locks = false)
    (hx : ∀ t : State, s.vm.Alike t.vm → H.size ≤ t.heap.size → (∀ q : Nat, q < H.size → t.heap[q]? = H[q]?) → XC cls s t)
    (hf : ∀ z ∈ locs, free z.base) (hc : cells + 1 ≤ mc) (hs : slots + 6 ≤ ms) :
    W p l e R s m args below meth c H locs cells slots (vx_MQ below Qc XC args s mc ms free) (F0 m pc ls rest) := by
  intro T hT X
  have htr : e.platform.stackTraces = false := (show e.platform.stackTraces = l.stackTraces by rw [X.admits.platform]).trans hl
  have Y := vx_rebase X (R' := { frames := R.frames, locals := R.locals, cells := 1, slots := 6 }) (Nat.le_refl _) (Nat.le_refl _) hRcells hRslots
  obtain ⟨s', hA⟩ : ∃ z, z = (T.setVm s.vm).setFrames (.invoking m args :: below) := ⟨_, rfl⟩
  rw [← hA] at Y
  have hvm : s'.vm = s.vm := by rw [hA]; rfl
  have hhp : s'.heap = H := by rw [hA]; exact hT
  have hW0 : s.WarmedH s'.vm := by rw [hvm]; exact State.WarmedH.refl s
  have hat' : ∀ w ∈ vx_atS own ic cls names, w.before args s' = true := fun w hw => vx_ot_at hW0 hvm.symm (hgood w (List.mem_cons_of_mem _ (List.mem_cons_of_mem _ hw))) (hat w hw)
  have hk' : (Cond.classLink own ik cls).before args s' = true := vx_ot_at hW0 hvm.symm (hgood _ List.mem_cons_self) hk
  have hini' : (Cond.initialized cls).before args s' = true := vx_ot_at hW0 hvm.symm (hgood _ (List.mem_cons_of_mem _ List.mem_cons_self)) hini
  have hU' : vx_Zq Bundle.tN "UNASSIGNED_STACK" Bundle.steD A s' s'.heap := by rw [hhp]; exact vx_Zq.moved hW0.alike (hU.kept hS.2.1)
  have hN' : vx_Zq Bundle.tN "SUPPRESSED_SENTINEL" Bundle.listD A s' s'.heap := by rw [hhp]; exact vx_Zq.moved hW0.alike (hN.kept hS.2.1)
  have h : ∀ w ∈ Bundle.ownAtoms own ic cls names, w.before args s' = true := vx_own hat' (vx_isRefq hU'.1) (vx_isRefq hN'.1) hU'.2.word hN'.2.word
  have hown' : s'.vm.findClass own = some m.cls := by rw [hvm]; exact hown
  have hins : (Cond.instantiable cls 6).before args s' = true := h _ (by simp [Bundle.ownAtoms])
  obtain ⟨vm₁, cX, kX, hfX, hkX, -, -, X₁, st1⟩ := Y.newCold hexec (own := own) (C := cls) (index := ik) (n := 6) hown' hk' hins hini'
    (g := F0 m pc ls rest) rfl (by rw [hb]; exact d0) (Nat.le_refl _) (Nat.le_refl _)
  generalize hT1 : (T.setVm vm₁).pushCell { cls := cX, slots := kX.instanceTypes.map defaultValue, vm := .none } = T1 at X₁ st1
  have hcat : (Value.ref T.heap.size).category = 1 := rfl
  have hcellA : T1.heap[T.heap.size]? = some (freshCell cX kX) := by rw [← hT1]; exact State.heap_pushCell_size _ _
  have d3' : decode c.code (pc + 3) = .ok (.dup, 1) := by rw [hb]; exact d3
  have d4' : decode c.code (pc + 4) = .ok (.ldc is, 2) := by rw [hb]; exact d4
  have hstr' : vk_R own is text sa s' := vk_R.warm hW0 hstr
  obtain ⟨U, hsteps, hrun, hend, hW, hsame, ce, hce, hO⟩ := X₁.ctorThrowS hexec htr (own := own) (cls := cls) (names := names) (ic := ic) hown' hcls hnames h (fun x hx => nomatch hx) hfX hkX hcellA (by rw [hhp, hT]; exact Nat.le_refl _) (msg := .ref sa) rfl
    (g := { method := m, pc := pc + 6, locals := ls, stack := .ref sa :: .ref T.heap.size :: .ref T.heap.size :: rest, locked := none }) rfl hsize rfl rfl (rest := rest) rfl
    (by rw [hb]; exact d6) (by rw [hb]; exact d9) hout hRframes (by simp only [List.map_cons, List.sum_cons, hcat]; omega) hlocks
  obtain ⟨f1, f2⟩ := vx_frame hsame
  rw [hhp] at f1 f2
  have hWs : s.WarmedH U.vm := State.WarmedH.trans hW0 hW
  have hcl : s.vm.findClass cls = some ce.cls := by
    have h9 := hO.cls
    rw [hvm] at h9
    exact h9
  have hall : s.sameButNew ({ U with vm := s.vm } : State) locs mc ms := by
    subst hA
    obtain ⟨e1, e2⟩ := hsame
    rw [State.setFrames_setFrames] at e1
    have h2 : (T.setVm s.vm).sameButNew ({ U with vm := s.vm } : State) [] (0 + 1) (0 + 6) := ⟨e1, e2⟩
    have h3 := X.same.trans h2
    rw [List.append_nil] at h3
    exact h3.mono hc hs
  refine ⟨U, ?_, .threw T.heap.size, hrun, hend, Or.inr ⟨T.heap.size, rfl, cls, ce, locs, hx U hWs.alike f1 (fun q hq => f2 q hq (fun z hz => nomatch hz)), hce, hO.vm, hcl, hWs, hall, hf⟩⟩
  refine st1 _ ?_
  show Steps p.tables e below (T1.setTop { method := m, pc := pc + 3, locals := ls, stack := .ref T.heap.size :: rest, locked := none }) _
  jvm_step X₁.here [X₁.here.top, hexec, d3', Value.category]
  exact X₁.ldcString hexec (own := own) (text := text) (index := is) (a := sa) hown' hstr'.1 hstr'.2
    (g := { method := m, pc := pc + 4, locals := ls, stack := .ref T.heap.size :: .ref T.heap.size :: rest, locked := none }) rfl d4' _ hsteps
/-- 'throw new E("text")', the text by a wide index -/
theorem vx_throwSW {cc : ByteArray} {pc : Nat} (hexec : p.tables.exec = Jvm.exec) (hb : c.code = cc) (hl : l.stackTraces = false) {own cls text : String} {names : List String} {ik is ic mc ms sa : Nat} {A : Nat → Prop}
    (hown : s.vm.findClass own = some m.cls) (hcls : Bundle.fit cls = true) (hnames : ∀ n ∈ names, Bundle.fit n = true)
    (hk : (Cond.classLink own ik cls).before args s = true) (hini : (Cond.initialized cls).before args s = true) (hstr : vk_R own is text sa s) (hat : ∀ w ∈ vx_atS own ic cls names, w.before args s = true)
    (hgood : ∀ w ∈ Cond.classLink own ik cls :: Cond.initialized cls :: vx_atS own ic cls names, vx_ot w = true)
    (hU : vx_Zq Bundle.tN "UNASSIGNED_STACK" Bundle.steD A s s.heap) (hN : vx_Zq Bundle.tN "SUPPRESSED_SENTINEL" Bundle.listD A s s.heap) (hS : va_S A s.heap H locs) (hsize : ls.size = c.maxLocals)
    (d0 : decode cc pc = .ok (.new ik, 3)) (d3 : decode cc (pc + 3) = .ok (.dup, 1)) (d4 : decode cc (pc + 4) = .ok (.ldc_w is, 3)) (d7 : decode cc (pc + 7) = .ok (.invokespecial ic, 3)) (d10 : decode cc (pc + 10) = .ok (.athrow, 1))
    (hout : ∀ x ∈ c.exceptionTable.toList, covers x (pc + 10) = false)
    (hRframes : names.length + 3 < R.frames) (hRlocals : (rest.map fun v => v.category).sum + (13 * (names.length + 1) + 43) ≤ R.locals) (hRcells : cells + 1 ≤ R.cells) (hRslots : slots + 6 ≤ R.slots) (hlocks : meth.locks = false)
    (hx : ∀ t : State, s.vm.Alike t.vm → H.size ≤ t.heap.size → (∀ q : Nat, q < H.size → t.heap[q]? = H[q]?) → XC cls s t)
    (hf : ∀ z ∈ locs, free z.base) (hc : cells + 1 ≤ mc) (hs : slots + 6 ≤ ms) :
    W p l e R s m args below meth c H locs cells slots (vx_MQ below Qc XC args s mc ms free) (F0 m pc ls rest) := by
  intro T hT X
  have htr : e.platform.stackTraces = false := (show e.platform.stackTraces = l.stackTraces by rw [X.admits.platform]).trans hl
  have Y := vx_rebase X (R' := { frames := R.frames, locals := R.locals, cells := 1, slots := 6 }) (Nat.le_refl _) (Nat.le_refl _) hRcells hRslots
  obtain ⟨s', hA⟩ : ∃ z, z = (T.setVm s.vm).setFrames (.invoking m args :: below) := ⟨_, rfl⟩
  rw [← hA] at Y
  have hvm : s'.vm = s.vm := by rw [hA]; rfl
  have hhp : s'.heap = H := by rw [hA]; exact hT
  have hW0 : s.WarmedH s'.vm := by rw [hvm]; exact State.WarmedH.refl s
  have hat' : ∀ w ∈ vx_atS own ic cls names, w.before args s' = true := fun w hw => vx_ot_at hW0 hvm.symm (hgood w (List.mem_cons_of_mem _ (List.mem_cons_of_mem _ hw))) (hat w hw)
  have hk' : (Cond.classLink own ik cls).before args s' = true := vx_ot_at hW0 hvm.symm (hgood _ List.mem_cons_self) hk
  have hini' : (Cond.initialized cls).before args s' = true := vx_ot_at hW0 hvm.symm (hgood _ (List.mem_cons_of_mem _ List.mem_cons_self)) hini
  have hU' : vx_Zq Bundle.tN "UNASSIGNED_STACK" Bundle.steD A s' s'.heap := by rw [hhp]; exact vx_Zq.moved hW0.alike (hU.kept hS.2.1)
  have hN' : vx_Zq Bundle.tN "SUPPRESSED_SENTINEL" Bundle.listD A s' s'.heap := by rw [hhp]; exact vx_Zq.moved hW0.alike (hN.kept hS.2.1)
  have h : ∀ w ∈ Bundle.ownAtoms own ic cls names, w.before args s' = true := vx_own hat' (vx_isRefq hU'.1) (vx_isRefq hN'.1) hU'.2.word hN'.2.word
  have hown' : s'.vm.findClass own = some m.cls := by rw [hvm]; exact hown
  have hins : (Cond.instantiable cls 6).before args s' = true := h _ (by simp [Bundle.ownAtoms])
  obtain ⟨vm₁, cX, kX, hfX, hkX, -, -, X₁, st1⟩ := Y.newCold hexec (own := own) (C := cls) (index := ik) (n := 6) hown' hk' hins hini'
    (g := F0 m pc ls rest) rfl (by rw [hb]; exact d0) (Nat.le_refl _) (Nat.le_refl _)
  generalize hT1 : (T.setVm vm₁).pushCell { cls := cX, slots := kX.instanceTypes.map defaultValue, vm := .none } = T1 at X₁ st1
  have hcat : (Value.ref T.heap.size).category = 1 := rfl
  have hcellA : T1.heap[T.heap.size]? = some (freshCell cX kX) := by rw [← hT1]; exact State.heap_pushCell_size _ _
  have d3' : decode c.code (pc + 3) = .ok (.dup, 1) := by rw [hb]; exact d3
  have d4' : decode c.code (pc + 4) = .ok (.ldc_w is, 3) := by rw [hb]; exact d4
  have hstr' : vk_R own is text sa s' := vk_R.warm hW0 hstr
  obtain ⟨U, hsteps, hrun, hend, hW, hsame, ce, hce, hO⟩ := X₁.ctorThrowS hexec htr (own := own) (cls := cls) (names := names) (ic := ic) hown' hcls hnames h (fun x hx => nomatch hx) hfX hkX hcellA (by rw [hhp, hT]; exact Nat.le_refl _) (msg := .ref sa) rfl
    (g := { method := m, pc := pc + 7, locals := ls, stack := .ref sa :: .ref T.heap.size :: .ref T.heap.size :: rest, locked := none }) rfl hsize rfl rfl (rest := rest) rfl
    (by rw [hb]; exact d7) (by rw [hb]; exact d10) hout hRframes (by simp only [List.map_cons, List.sum_cons, hcat]; omega) hlocks
  obtain ⟨f1, f2⟩ := vx_frame hsame
  rw [hhp] at f1 f2
  have hWs : s.WarmedH U.vm := State.WarmedH.trans hW0 hW
  have hcl : s.vm.findClass cls = some ce.cls := by
    have h9 := hO.cls
    rw [hvm] at h9
    exact h9
  have hall : s.sameButNew ({ U with vm := s.vm } : State) locs mc ms := by
    subst hA
    obtain ⟨e1, e2⟩ := hsame
    rw [State.setFrames_setFrames] at e1
    have h2 : (T.setVm s.vm).sameButNew ({ U with vm := s.vm } : State) [] (0 + 1) (0 + 6) := ⟨e1, e2⟩
    have h3 := X.same.trans h2
    rw [List.append_nil] at h3
    exact h3.mono hc hs
  refine ⟨U, ?_, .threw T.heap.size, hrun, hend, Or.inr ⟨T.heap.size, rfl, cls, ce, locs, hx U hWs.alike f1 (fun q hq => f2 q hq (fun z hz => nomatch hz)), hce, hO.vm, hcl, hWs, hall, hf⟩⟩
  refine st1 _ ?_
  show Steps p.tables e below (T1.setTop { method := m, pc := pc + 3, locals := ls, stack := .ref T.heap.size :: rest, locked := none }) _
  jvm_step X₁.here [X₁.here.top, hexec, d3', Value.category]
  exact X₁.ldcStringW hexec (own := own) (text := text) (index := is) (a := sa) hown' hstr'.1 hstr'.2
    (g := { method := m, pc := pc + 4, locals := ls, stack := .ref T.heap.size :: .ref T.heap.size :: rest, locked := none }) rfl d4' _ hsteps
end Ends
section Bodies
variable {l : Launch}
theorem vx_ofW {y : MethodName} {ws ws' : List Cond} {rm : Room} {Pc : Array Value → State → Prop} {Qc : Array Value → State → Outcome → State → Prop} {XC : String → State → State → Prop} {mc ms : Nat} {free : Addr → Prop} {cc : ByteArray} {maxL : Nat} {ret : Option FieldType}
    (hy : plainName y.cls = true) (hw : ws = Cond.code y cc maxL ret :: ws')
    (body : ∀ p e s m args below meth c s₁, BodyLoose p l y (headSpec ws rm) cc maxL ret e s m args below meth c s₁ → c.maxLocals = maxL → (∀ x ∈ c.exceptionTable.toList, False) → Pc args s →
      W p l e (headSpec ws rm).room s m args below meth c s.heap [] 0 0 (vx_MQ below Qc XC args s mc ms free) (entryFrame m args maxL)) : vx_Met l y ws rm Pc Qc XC mc ms free := by
  refine MetFree.of_bodyS (code := cc) (maxLocals := maxL) (ret := ret) hy ?_ ?_
  · intro args s m h hn
    obtain ⟨meth, c, h1, h2, h3, h4, h5, h6, -, -⟩ := Cond.code_spec hn (atoms_spec (ws := ws) h _ (by rw [hw]; exact List.mem_cons_self))
    exact ⟨meth, c, h1, h2, h3, h4, h5, h6⟩
  · intro p e s m args below meth c s₁ B hml hP _
    have hh0 : s₁.heap = s.heap := by rw [B.state]; rfl
    have ht : ∀ x ∈ c.exceptionTable.toList, False := by
      obtain ⟨meth9, c9, h1, h2, -, -, -, -, h7, -⟩ := Cond.code_spec B.named (atoms_spec (ws := ws) B.pre _ (by rw [hw]; exact List.mem_cons_self))
      cases Option.some.inj (h1.symm.trans B.method)
      cases Option.some.inj (h2.symm.trans (Stand.of_body B).code)
      intro x hx
      rw [Array.isEmpty_iff.mp h7] at hx
      cases hx
    obtain ⟨t, a1, o, b1, b2, b3⟩ := body p e s m args below meth c s₁ B hml ht hP s₁ hh0 (Stand.of_body B)
    exact ⟨t, o, a1, b1, b2, b3⟩
/-- the table of a body with handlers -/
theorem vx_table {p : Program} {x y : MethodName} {S : Spec} {cc bytes : ByteArray} {maxL maxL' : Nat} {ret ret' : Option FieldType} {e : Env} {s s₁ : State} {m : MethodId} {args : Array Value} {below : List Frame} {meth : Method} {c : Code} {hh : List (Nat × Nat × Nat × Nat)}
    (B : BodyLoose p l y S cc maxL ret e s m args below meth c s₁) (h : (Cond.codeWith y bytes maxL' ret' hh).before args s = true) : c.exceptionTable.toList = tableOf hh := by
  obtain ⟨m9, meth9, c9, hn9, h1, h2, -, -, h6, -⟩ := Cond.codeWith_spec h
  cases Option.some.inj (hn9.symm.trans B.named)
  cases Option.some.inj (h1.symm.trans B.method)
  cases Option.some.inj (h2.symm.trans (Stand.of_body B).code)
  rw [← h6, table_eq]
end Bodies
end VXA
/-! ===== END ===== -/
/-! ===== BEGIN a static call of a method with an exception table ===== -/
section VXS
variable {p : Program} {l : Launch} {e : Env} {R : Room} {s : State} {m : MethodId} {args : Array Value} {below : List Frame} {meth : Method} {c : Code} {T : State} {H : Heap} {locs : List Loc} {cells slots : Nat}
abbrev vx_CSW (R : Room) (s : State) (args : Array Value) (own : String) (index : Nat) (y : MethodName) (bytes : ByteArray) (maxL : Nat) (ret : Option FieldType) (hh : List (Nat × Nat × Nat × Nat)) (ws : List Cond) (rm : Room) (mc ms n : Nat) : Prop :=
  (rm.cells = mc ∧ rm.slots = ms ∧ rm.frames + 1 ≤ R.frames ∧ 8 + (maxL + 11) + rm.locals ≤ R.locals ∧ (∀ w ∈ ws, ∀ (a' : Array Value) (U : State), s.WarmedH U.vm → w.before a' U = true) ∧ Cond.codeWith y bytes maxL ret hh ∈ ws) ∧
  (Cond.codeWith y bytes maxL ret hh).before args s = true ∧ (Cond.initialized y.cls).before args s = true ∧ (y.cls ≠ "java/lang/invoke/MethodHandle" ∧ y.cls ≠ "java/lang/invoke/VarHandle") ∧
  (∀ sig, parseMethodDescriptor y.desc = some sig → n = sig.parameters.length) ∧ (Cond.methodLink own index y).before args s = true ∧ (Cond.static y).before args s = true
theorem vx_cwSW {own : String} {index maxL mc ms : Nat} {y : MethodName} {bytes : ByteArray} {ret : Option FieldType} {hh : List (Nat × Nat × Nat × Nat)} {Ts ws ws' : List Cond} {rm : Room} (n : Nat) (ht : ∀ w ∈ Ts, w.before args s = true) (hT : GoodIn Ts (va_wsS own index y ws)) (hw : ws = Cond.codeWith y bytes maxL ret hh :: ws') (hrc : rm.cells = mc) (hrs : rm.slots = ms)
    (hd : y.cls ≠ "java/lang/invoke/MethodHandle" ∧ y.cls ≠ "java/lang/invoke/VarHandle" ∧ (parseMethodDescriptor y.desc).map (fun d => d.parameters.length) = some n) (hR : rm.frames + 1 ≤ R.frames ∧ 8 + (maxL + 11) + rm.locals ≤ R.locals) :
    vx_CSW R s args own index y bytes maxL ret hh ws rm mc ms n := by
  have ok : ∀ w ∈ va_wsS own index y ws, w.before args s = true := fun w h => ht w (hT w h).1
  have hG : GoodIn Ts ws := fun w h => hT w (by unfold va_wsS; exact List.mem_append_right _ h)
  have hc : Cond.codeWith y bytes maxL ret hh ∈ ws := by rw [hw]; exact List.mem_cons_self
  refine ⟨⟨hrc, hrs, hR.1, hR.2, pay_in ht hG, hc⟩, ht _ (hG _ hc).1, ok _ (by simp [va_wsS]), ⟨hd.1, hd.2.1⟩, fun sig h => ?_, ok _ (by simp [va_wsS]), ok _ (by simp [va_wsS])⟩
  have h2 := hd.2.2
  rw [h] at h2
  exact (Option.some.inj h2).symm
theorem vx_callSW (X : Stand p l e R s m args below meth c T locs cells slots) (hexec : p.tables.exec = Jvm.exec) {own : String} {index : Nat} {y : MethodName} {bytes : ByteArray} {maxL : Nat} {ret : Option FieldType} {hh : List (Nat × Nat × Nat × Nat)}
    (hown : s.vm.findClass own = some m.cls) (hlink : (Cond.methodLink own index y).before args s = true) (hstat : (Cond.static y).before args s = true) (hinit : (Cond.initialized y.cls).before args s = true)
    (hcode : (Cond.codeWith y bytes maxL ret hh).before args s = true) (hy : y.cls ≠ "java/lang/invoke/MethodHandle" ∧ y.cls ≠ "java/lang/invoke/VarHandle")
    {W9 : Nat} {Pre : Pt → Array Value → Prop} {Post : Pt → Array Value → Option Value → Pt → Prop} (hK : Back l R p e below s args y 3 W9 Pre Post)
    {g : JFrame} (hg : g.method = m) (hsize : g.locals.size = c.maxLocals) {argsL rest : List Value} (hlen : ∀ sig, parseMethodDescriptor y.desc = some sig → argsL.length = sig.parameters.length)
    (hstack : g.stack = argsL.reverse ++ rest) (hW : 2 * g.monitorRoom + (rest.map fun v => v.category).sum ≤ W9) (hdg : decode c.code g.pc = .ok (.invokestatic index, 3))
    (hpre : ∀ vm₁, s.WarmedH vm₁ → Pre ⟨T.setVm vm₁, locs, cells, slots⟩ argsL.toArray) :
    ∃ (v : Option Value) (vm₁ : Vm) (B : Pt), s.WarmedH vm₁ ∧ Stand p l e R s m args below meth c B.U B.locs B.cells B.slots ∧ Post ⟨T.setVm vm₁, locs, cells, slots⟩ argsL.toArray v B ∧
      ∀ target, Steps p.tables e below (B.U.setTop { g with pc := g.pc + 3, stack := v.toList ++ rest }) target → Steps p.tables e below (T.setTop g) target := by
  obtain ⟨mk, methM, cM, hnamed, hmethM, -, -, -, -, -, -, hsigM⟩ := Cond.codeWith_spec hcode
  have hstatic : methM.isStatic = true := Cond.static_spec hnamed hmethM hstat
  obtain ⟨kP, hkP, -⟩ := className_of_methodNamed hnamed
  have hinitP : kP.init = .initialized := Cond.initialized_spec (findClass_of_methodNamed hnamed) hkP hinit
  obtain ⟨vm₁, X₁, hstep₁⟩ := X.invokestatic hexec hown hlink hnamed hmethM hstatic hkP hinitP hy (g := g) hg (argsL := argsL) (rest := rest) (hlen _ hsigM) hstack hdg
  obtain ⟨v, B, X', hpost, hsteps⟩ := hK m meth c ⟨T.setVm vm₁, locs, cells, slots⟩ { g with stack := rest } (.invokestatic index) mk argsL.toArray X₁ hg hsize hdg hW (X₁.named hnamed) (hpre vm₁ X₁.warmed)
  exact ⟨v, vm₁, B, X₁.warmed, X', hpost, fun target h => hstep₁ _ fun acts => by rw [doInvoke_state]; exact hsteps.trans h⟩
theorem vx_runSW {y : MethodName} {bytes cc : ByteArray} {maxL nL mc ms n index : Nat} {ret : Option FieldType} {hh : List (Nat × Nat × Nat × Nat)} {ws : List Cond} {rm : Room} {Pc : Array Value → State → Prop} {Qc : Array Value → State → Outcome → State → Prop} {free : Addr → Prop} {Ts : List Cond} {own : String} {As rest : List Value} {g : JFrame}
    (S : CallFix p m c cc nL s args Ts own) (hM : Met l y ws rm Pc Qc mc ms free) (cw : vx_CSW R s args own index y bytes maxL ret hh ws rm mc ms n) (hp : PreS s H Pc As)
    (hg : g.method = m) (hn : As.length = n) (hsize : g.locals.size = nL) (hstack : g.stack = As.reverse ++ rest) (hW : 2 * g.monitorRoom + (rest.map fun v => v.category).sum ≤ 8) (hdg : decode cc g.pc = .ok (.invokestatic index, 3)) (hf : cells + mc ≤ R.cells ∧ slots + ms ≤ R.slots) :
    va_Run p l e R s m args below meth c H locs cells slots mc ms g rest (Qc As.toArray) (free) := by
  obtain ⟨⟨hrc, hrs, hfr, hlo, hws, hcw⟩, hcode, hini, hy, hlen, hl, hstt⟩ := cw
  have hK : Back l R p e below s args y 3 8 (PreOf R mc ms Pc) (PostOf Qc mc ms free) := va_backW (hh := hh) (bytes := bytes) (maxL := maxL) (ret := ret) hM hp.1 hrc hrs hfr hlo hws hcw (fun a' U hW => word_at hW (Or.inl (by first | rfl | simp [Cond.onTables, Cond.keeps, Cond.steady])) hini)
  obtain ⟨hx, hb, hml, ho, -⟩ := S
  intro T hT X
  obtain ⟨v, vm₁, ⟨U', l2, c2, s2⟩, hW₁, X', ⟨g', mk, t, L, e1, e2, hq, h1, hL, h2, h3⟩, st⟩ := vx_callSW X hx (hh := hh) (bytes := bytes) (maxL := maxL) (ret := ret) ho hl hstt hini hcode hy hK hg (hsize.trans hml.symm) (argsL := As) (rest := rest) (fun sig h => hn.trans (hlen sig h)) hstack hW (by rw [hb]; exact hdg)
    (fun vm₁ hW₁ => ⟨hf.1, hf.2, hp.2 (T.setVm vm₁) hT hW₁⟩)
  dsimp only [Pt.U, Pt.locs, Pt.cells, Pt.slots] at X' e1 e2 h1 h2 h3 st
  subst h1; subst h2; subst h3
  exact ⟨v, (T.setVm vm₁).calling g' mk As.toArray, t, U', L, hT, X', hL, e1, e2, hq, st⟩
/-- not caught here, past rows that name other classes: it goes on to the caller -/
theorem vx_outP {p : Program} {l : Launch} {e : Env} {R : Room} {s : State} {m : MethodId} {args : Array Value} {below : List Frame} {meth : Method} {c : Code} {H : Heap} {locs : List Loc} {cells slots : Nat} {free : Addr → Prop} {ls : Array Slot} {rest : List Value} {Qc : Array Value → State → Outcome → State → Prop} {XC : String → State → State → Prop}
    {pc : Nat} {own E : String} {ce : Cell} {q : Addr} {mc ms : Nat} (hown : s.vm.findClass own = some m.cls) (hlocks : meth.locks = false)
    (hpass : ∀ z ∈ c.exceptionTable.toList, covers z pc = false ∨ (z.catchType ≠ 0 ∧ ∃ nm : String, (Cond.classLink own z.catchType nm).before args s = true ∧ va_Nc E nm s)) (hcell : H[q]? = some ce) (hv : ce.vm = .none) (hcl : s.vm.findClass E = some ce.cls)
    (hx : ∀ t : State, t.heap = H → s.vm.Alike t.vm → XC E s t) (hf : ∀ z ∈ locs, free z.base) (hc : cells ≤ mc) (hs : slots ≤ ms) :
    vx_W p l e R s m args below meth c H locs cells slots (vx_MQ below Qc XC args s mc ms free) (F0 m pc ls rest) q := by
  intro T hT X
  have hpl : e.platform.magicAccessors = ({} : Platform).magicAccessors := by rw [X.admits.platform]
  obtain ⟨vm', hW', X', st⟩ := X.outThrough hlocks q (g := F0 m pc ls rest) rfl rfl rfl (cell := ce) (by rw [hT]; exact hcell) (by rw [hv]; rfl)
    (by obtain ⟨k9, h9, -⟩ := Vm.findClass_spec hcl; exact ⟨k9, h9⟩) (fun z hz => by
      rcases hpass z hz with h | ⟨hz0, nm, hl1, hn1⟩
      · exact Or.inl h
      · obtain ⟨c6, hc6, hcl6⟩ := Cond.classLink_spec hown hl1 e.platform hpl
        obtain ⟨a8, b8, h1, h2, h3⟩ := hn1
        cases Option.some.inj (h1.symm.trans hcl)
        cases Option.some.inj (h2.symm.trans hc6)
        exact Or.inr ⟨hz0, _, hcl6, h3⟩)
  obtain ⟨g₀, hfr⟩ := X'.frames_eq
  have hcell9 : ((T.setVm vm').setFrames (.throwing q :: below)).heap[q]? = some ce := by
    show T.heap[q]? = some ce
    rw [hT]; exact hcell
  have hend : Ended ((T.setVm vm').setFrames (.throwing q :: below)) below (.threw q) := State.frames_setFrames _ (State.cur_lt_of_frames hfr)
  refine ⟨(T.setVm vm').setFrames (.throwing q :: below), ?_, .threw q, X'.here.running, hend, Or.inr ⟨q, rfl, E, ce, locs, hx _ hT (X'.ends _).1.alike, hcell9, hv, hcl, (X'.ends _).1, (X'.ends _).2.mono hc hs, hf⟩⟩
  rw [X.pushThrowing_eq]
  exact st
/-- a thing of a world lies in the heap -/
theorem vx_lt {D : va_G} {cl : List vw_C} {ws : va_W} {H1 : Heap} (h : va_P D cl ws H1) {k : Nat} {q : Nat × va_E} (hk : ws[k]? = some q) : q.1 < H1.size := (h k q hk).lt
end VXS
/-! ===== END ===== -/
/-! ===== BEGIN methods with a table of their own: called by a name, returning or throwing ===== -/
section VXH
/-! vx_backW, vx_callVX, vx_callSX, vx_callVW, vx_runVW, vx_runVX, vx_runSX, vx_ofWH follow the same proofs as their sisters above (Free/Laws.lean, Shelf42/LK1.lean); vx_outP calls Shelf42/NT130.lean (outThrough). -/
section
variable {l : Launch} {R : Room} {p : Program} {e : Env} {below : List Frame} {s : State} {sargs : Array Value} {y : MethodName} {len W9 : Nat}
theorem vx_backW {ws : List Cond} {rm : Room} {Pc : Array Value → State → Prop} {Qc : Array Value → State → Outcome → State → Prop} {XC : String → State → State → Prop} {mc ms : Nat} {free : Addr → Prop} {bytes : ByteArray} {maxL : Nat} {ret : Option FieldType} {hh : List (Nat × Nat × Nat × Nat)}
    (hM : vx_Met l y ws rm Pc Qc XC mc ms free) (hblind : FrameBlind Pc) (hrc : rm.cells = mc) (hrs : rm.slots = ms)
    (hframes : rm.frames + 1 ≤ R.frames) (hlocals : W9 + (maxL + 11) + rm.locals ≤ R.locals)
    (hws : ∀ w ∈ ws, ∀ a' U, s.WarmedH U.vm → w.before a' U = true) (hcode : Cond.codeWith y bytes maxL ret hh ∈ ws) (hinit : ∀ a' U, s.WarmedH U.vm → (Cond.initialized y.cls).before a' U = true) :
    vx_Back l R p e below s sargs y len W9 (PreOf R mc ms Pc) (PostOf Qc mc ms free) (vx_Post XC mc ms free) := by
  intro m meth c A g ig mk a X hg hsize hdg hW hn hp
  have h1 : (headSpec ws rm).pre.before a A.U = true := atoms_intro fun w hw => hws w hw _ _ X.warmed
  have h2 : (Cond.codeWith y bytes maxL ret hh).before a A.U = true := hws _ hcode _ _ X.warmed
  have h3 : (Cond.initialized y.cls).before a A.U = true := hinit _ _ X.warmed
  have h4 : A.cells + (headSpec ws rm).room.cells ≤ R.cells := by rw [show (headSpec ws rm).room.cells = mc from hrc]; exact hp.1
  have h5 : A.slots + (headSpec ws rm).room.slots ≤ R.slots := by rw [show (headSpec ws rm).room.slots = ms from hrs]; exact hp.2.1
  have hPc : Pc a (A.U.calling g mk a) := hblind _ _ _ _ hp.2.2
  obtain ⟨U, Ls, c0, s0⟩ := A
  dsimp only [Pt.U, Pt.locs, Pt.cells, Pt.slots] at h1 h2 h3 h4 h5 X hn hPc ⊢
  obtain ⟨m9, methY, cY, hn9, hmY, hcY, -, hlY, -⟩ := Cond.codeWith_spec h2
  cases Option.some.inj (hn9.symm.trans hn)
  obtain ⟨kY, hkY, -⟩ := className_of_methodNamed hn
  have hinitY : kY.init = .initialized := Cond.initialized_spec (findClass_of_methodNamed hn) hkY h3
  have h : At U g.method c below := by rw [hg]; exact X.here
  have hlocals9 : W9 + (maxL + 11) + (headSpec ws rm).room.locals ≤ R.locals := hlocals
  have happ : (headSpec ws rm).appliesLoose y e.platform (U.calling g mk a) = true :=
    Spec.appliesLoose_calling (g := g) h hdg hn hkY hinitY
      (X.room_calling (g := g) (R' := (headSpec ws rm).room) hsize hmY hcY hframes (by rw [hlY]; omega) h4 h5) h1
  obtain ⟨mid, hmid⟩ := h.above
  have hfr : (U.setTop g).frames = (.java g :: mid) ++ below := by rw [State.frames_setTop' g h.top, hmid]; rfl
  obtain ⟨o, s₂, hsteps, -, hend, hq⟩ := Steps.callFree hM p X.admits X.cas X.clock (acts := []) hfr happ hPc trivial
  have hq' : vx_Q Qc XC mc ms free a (U.calling g mk a) o s₂ := hq
  rw [State.frames_setTop' g h.top] at hend
  obtain ⟨g₀, hg0⟩ := Option.isSome_iff_exists.mp h.top
  obtain ⟨r, hr⟩ := State.topJava?_eq_some.mp hg0
  have hr' : (({ U with heap := s₂.heap, slotsUsed := s₂.slotsUsed } : State).setVm s₂.vm).frames = .java g₀ :: r := hr
  rcases hq' with ⟨hqc, L, hfe, hL⟩ | ⟨q, rfl, E, ce, L, hx, hce, hcv, hcl, hW₂, hsm, hL⟩
  · obtain ⟨⟨v, rfl⟩, hW₂, e2, q2, q3, q4, q5, q6⟩ := id hfe
    have e3 : s₂ = ({ (U.calling g mk a).setFrames s₂.frames with heap := s₂.heap, slotsUsed := s₂.slotsUsed } : State).setVm s₂.vm := by
      have : s₂ = ({ s₂ with vm := (U.calling g mk a).vm } : State).setVm s₂.vm := rfl
      rw [e2] at this
      exact this
    obtain ⟨c₂, i₂, len₂, hc₂, hd₂, hf₂⟩ := hend
    have hW' : U.WarmedH s₂.vm := hW₂
    have hcc : c₂ = c := by
      have h1 : s₂.code? g.method = U.code? g.method := by
        rw [State.code?_eq, State.code?_eq, hW'.alike.method?]
      exact Option.some.inj (hc₂.symm.trans (h1.trans h.code))
    subst hcc
    have hlen : len₂ = len := by rw [hdg] at hd₂; cases hd₂; rfl
    subst hlen
    have hs₂ : s₂ = (({ U with heap := s₂.heap, slotsUsed := s₂.slotsUsed } : State).setVm s₂.vm).setTop { g with pc := g.pc + len₂, stack := v.toList ++ g.stack } := by
      refine e3.trans ?_
      rw [hf₂, State.calling_eq h.top, State.setFrames_setFrames, State.setTop_of_frames _ hr', hr]
      rfl
    have hsame : U.sameButNew ({ U with heap := s₂.heap, slotsUsed := s₂.slotsUsed } : State) L mc ms := by
      refine ⟨?_, q2, q3, q4, q5, q6⟩
      obtain ⟨t, ht, -⟩ := State.frames_cons hr
      show ({ U with heap := s₂.heap, slotsUsed := s₂.slotsUsed } : State) = { U.setFrames U.frames with heap := s₂.heap, slotsUsed := s₂.slotsUsed }
      rw [State.setFrames_self ht]
    subst hg
    refine Or.inl ⟨v, ⟨(({ U with heap := s₂.heap, slotsUsed := s₂.slotsUsed } : State).setVm s₂.vm), Ls ++ L, c0 + mc, s0 + ms⟩,
      ⟨X.admits, X.cas, X.clock, X.frames, X.room, X.hears, X.method, X.code, (X.here.setHeapUsed s₂.heap s₂.slotsUsed).setVm hW'.alike, X.tail, State.WarmedH.trans X.warmed hW', X.limits, X.bytes, X.same.trans (hsame.setVm s.vm)⟩,
      ⟨g, mk, s₂, L, rfl, rfl, hqc, rfl, hL, rfl, rfl⟩, ?_⟩
    show Steps p.tables e below _ ((({ U with heap := s₂.heap, slotsUsed := s₂.slotsUsed } : State).setVm s₂.vm).setTop { g with pc := g.pc + len₂, stack := v.toList ++ g.stack })
    rw [← hs₂]
    exact hsteps
  · obtain ⟨e2, q2, q3, q4, q5, q6⟩ := id hsm
    have e3 : s₂ = ({ (U.calling g mk a).setFrames s₂.frames with heap := s₂.heap, slotsUsed := s₂.slotsUsed } : State).setVm s₂.vm := by
      have : s₂ = ({ s₂ with vm := (U.calling g mk a).vm } : State).setVm s₂.vm := rfl
      rw [e2] at this
      exact this
    have hf₂ : s₂.frames = .throwing q :: .java g :: U.frames.tail := hend
    have hW' : U.WarmedH s₂.vm := hW₂
    have hs₂ : s₂ = ((({ U with heap := s₂.heap, slotsUsed := s₂.slotsUsed } : State).setVm s₂.vm).setTop g).pushFrame (.throwing q) := by
      refine e3.trans ?_
      rw [hf₂, State.calling_eq h.top, State.setFrames_setFrames, State.pushFrame, State.frames_setTop _ hr', State.setTop_of_frames _ hr', State.setFrames_setFrames, hr]
      rfl
    have hsame : U.sameButNew ({ U with heap := s₂.heap, slotsUsed := s₂.slotsUsed } : State) L mc ms := by
      refine ⟨?_, q2, q3, q4, q5, q6⟩
      obtain ⟨t, ht, -⟩ := State.frames_cons hr
      show ({ U with heap := s₂.heap, slotsUsed := s₂.slotsUsed } : State) = { U.setFrames U.frames with heap := s₂.heap, slotsUsed := s₂.slotsUsed }
      rw [State.setFrames_self ht]
    subst hg
    refine Or.inr ⟨q, ⟨(({ U with heap := s₂.heap, slotsUsed := s₂.slotsUsed } : State).setVm s₂.vm), Ls ++ L, c0 + mc, s0 + ms⟩,
      ⟨X.admits, X.cas, X.clock, X.frames, X.room, X.hears, X.method, X.code, (X.here.setHeapUsed s₂.heap s₂.slotsUsed).setVm hW'.alike, X.tail, State.WarmedH.trans X.warmed hW', X.limits, X.bytes, X.same.trans (hsame.setVm s.vm)⟩,
      ⟨g, mk, s₂, L, E, ce, rfl, rfl, hx, hce, hcv, hcl, rfl, hL, rfl, rfl⟩, ?_⟩
    show Steps p.tables e below _ (((({ U with heap := s₂.heap, slotsUsed := s₂.slotsUsed } : State).setVm s₂.vm).setTop g).pushFrame (.throwing q))
    rw [← hs₂]
    exact hsteps
end
variable {p : Program} {l : Launch} {e : Env} {R : Room} {s : State} {m : MethodId} {args : Array Value} {below : List Frame} {meth : Method} {c : Code} {T : State} {H : Heap} {locs : List Loc} {cells slots : Nat}
theorem vx_callVX (X : Stand p l e R s m args below meth c T locs cells slots) (hexec : p.tables.exec = Jvm.exec) {own C : String} {index : Nat} {y : MethodName} {bytes : ByteArray} {maxL : Nat} {ret : Option FieldType} {hh : List (Nat × Nat × Nat × Nat)}
    (hown : s.vm.findClass own = some m.cls) (hlink : (Cond.methodLink own index y).before args s = true) (hinst : (Cond.instanceMethod y).before args s = true) (hsel : (Cond.selects C y y).before args s = true)
    (hcode : (Cond.codeWith y bytes maxL ret hh).before args s = true) (hy : y.cls ≠ "java/lang/invoke/MethodHandle" ∧ y.cls ≠ "java/lang/invoke/VarHandle")
    {W9 : Nat} {Pre : Pt → Array Value → Prop} {Post : Pt → Array Value → Option Value → Pt → Prop} {PostX : Pt → Array Value → Addr → Pt → Prop} (hK : vx_Back l R p e below s args y 3 W9 Pre Post PostX)
    {b : Addr} {cellB : Cell} (hcell : T.heap[b]? = some cellB) (hobj : cellB.vm.isStatics = false) (hcls : s.vm.findClass C = some cellB.cls)
    {g : JFrame} (hg : g.method = m) (hsize : g.locals.size = c.maxLocals) {argsL rest : List Value} (hlen : ∀ sig, parseMethodDescriptor y.desc = some sig → argsL.length = sig.parameters.length)
    (hstack : g.stack = argsL.reverse ++ .ref b :: rest) (hW : 2 * g.monitorRoom + (rest.map fun v => v.category).sum ≤ W9) (hdg : decode c.code g.pc = .ok (.invokevirtual index, 3))
    (hpre : ∀ vm₁, s.WarmedH vm₁ → Pre ⟨T.setVm vm₁, locs, cells, slots⟩ (Value.ref b :: argsL).toArray) :
    (∃ (v : Option Value) (vm₁ : Vm) (B : Pt), s.WarmedH vm₁ ∧ Stand p l e R s m args below meth c B.U B.locs B.cells B.slots ∧ Post ⟨T.setVm vm₁, locs, cells, slots⟩ (Value.ref b :: argsL).toArray v B ∧
      ∀ target, Steps p.tables e below (B.U.setTop { g with pc := g.pc + 3, stack := v.toList ++ rest }) target → Steps p.tables e below (T.setTop g) target) ∨
    (∃ (q : Addr) (vm₁ : Vm) (B : Pt), s.WarmedH vm₁ ∧ Stand p l e R s m args below meth c B.U B.locs B.cells B.slots ∧ PostX ⟨T.setVm vm₁, locs, cells, slots⟩ (Value.ref b :: argsL).toArray q B ∧
      Steps p.tables e below (T.setTop g) ((B.U.setTop { g with stack := rest }).pushFrame (.throwing q))) := by
  obtain ⟨mk, methM, hnamed, hmethM, hstM, habM⟩ := Cond.instanceMethod_spec hinst
  obtain ⟨m8, methM', cM, hn8, hmethM', -, -, -, -, -, -, hsigM⟩ := Cond.codeWith_spec hcode
  cases Option.some.inj (hn8.symm.trans hnamed)
  cases hmethM.symm.trans hmethM'
  obtain ⟨c2, r2, m2, q1, q2, q3, q4, kP, hkP, hkPi⟩ := Cond.selects_spec hsel
  cases hcls.symm.trans q1
  cases (State.methodFound?_of_named hnamed hy).symm.trans q2
  cases hnamed.symm.trans q3
  have hselP : selectMethod e.platform s.vm cellB.cls mk = .method mk := by rw [Launch.admits_selectMethod X.admits]; exact q4
  obtain ⟨vm₁, X₁, hstep₁⟩ := X.invokevirtual hexec hown hlink hnamed hmethM hstM hkP hkPi hy (a := b) (cell := cellB) hcell
    (fun z h => by rw [h] at hobj; cases hobj) hselP hmethM habM hkP hkPi (g := g) hg (argsL := argsL) (rest := rest) (hlen _ hsigM) hstack hdg
  rcases hK m meth c ⟨T.setVm vm₁, locs, cells, slots⟩ { g with stack := rest } (.invokevirtual index) mk (Value.ref b :: argsL).toArray X₁ hg hsize hdg hW (X₁.named hnamed) (hpre vm₁ X₁.warmed) with ⟨v, B, X', hpost, hsteps⟩ | ⟨q, B, X', hpost, hsteps⟩
  · exact Or.inl ⟨v, vm₁, B, X₁.warmed, X', hpost, fun target h => hstep₁ _ fun acts => by rw [doInvoke_state]; exact hsteps.trans h⟩
  · exact Or.inr ⟨q, vm₁, B, X₁.warmed, X', hpost, hstep₁ _ fun acts => by rw [doInvoke_state]; exact hsteps⟩
theorem vx_callSX (X : Stand p l e R s m args below meth c T locs cells slots) (hexec : p.tables.exec = Jvm.exec) {own : String} {index : Nat} {y : MethodName} {bytes : ByteArray} {maxL : Nat} {ret : Option FieldType} {hh : List (Nat × Nat × Nat × Nat)}
    (hown : s.vm.findClass own = some m.cls) (hlink : (Cond.methodLink own index y).before args s = true) (hstat : (Cond.static y).before args s = true) (hinit : (Cond.initialized y.cls).before args s = true)
    (hcode : (Cond.codeWith y bytes maxL ret hh).before args s = true) (hy : y.cls ≠ "java/lang/invoke/MethodHandle" ∧ y.cls ≠ "java/lang/invoke/VarHandle")
    {W9 : Nat} {Pre : Pt → Array Value → Prop} {Post : Pt → Array Value → Option Value → Pt → Prop} {PostX : Pt → Array Value → Addr → Pt → Prop} (hK : vx_Back l R p e below s args y 3 W9 Pre Post PostX)
    {g : JFrame} (hg : g.method = m) (hsize : g.locals.size = c.maxLocals) {argsL rest : List Value} (hlen : ∀ sig, parseMethodDescriptor y.desc = some sig → argsL.length = sig.parameters.length)
    (hstack : g.stack = argsL.reverse ++ rest) (hW : 2 * g.monitorRoom + (rest.map fun v => v.category).sum ≤ W9) (hdg : decode c.code g.pc = .ok (.invokestatic index, 3))
    (hpre : ∀ vm₁, s.WarmedH vm₁ → Pre ⟨T.setVm vm₁, locs, cells, slots⟩ argsL.toArray) :
    (∃ (v : Option Value) (vm₁ : Vm) (B : Pt), s.WarmedH vm₁ ∧ Stand p l e R s m args below meth c B.U B.locs B.cells B.slots ∧ Post ⟨T.setVm vm₁, locs, cells, slots⟩ argsL.toArray v B ∧
      ∀ target, Steps p.tables e below (B.U.setTop { g with pc := g.pc + 3, stack := v.toList ++ rest }) target → Steps p.tables e below (T.setTop g) target) ∨
    (∃ (q : Addr) (vm₁ : Vm) (B : Pt), s.WarmedH vm₁ ∧ Stand p l e R s m args below meth c B.U B.locs B.cells B.slots ∧ PostX ⟨T.setVm vm₁, locs, cells, slots⟩ argsL.toArray q B ∧
      Steps p.tables e below (T.setTop g) ((B.U.setTop { g with stack := rest }).pushFrame (.throwing q))) := by
  obtain ⟨mk, methM, cM, hnamed, hmethM, -, -, -, -, -, -, hsigM⟩ := Cond.codeWith_spec hcode
  have hstatic : methM.isStatic = true := Cond.static_spec hnamed hmethM hstat
  obtain ⟨kP, hkP, -⟩ := className_of_methodNamed hnamed
  have hinitP : kP.init = .initialized := Cond.initialized_spec (findClass_of_methodNamed hnamed) hkP hinit
  obtain ⟨vm₁, X₁, hstep₁⟩ := X.invokestatic hexec hown hlink hnamed hmethM hstatic hkP hinitP hy (g := g) hg (argsL := argsL) (rest := rest) (hlen _ hsigM) hstack hdg
  rcases hK m meth c ⟨T.setVm vm₁, locs, cells, slots⟩ { g with stack := rest } (.invokestatic index) mk argsL.toArray X₁ hg hsize hdg hW (X₁.named hnamed) (hpre vm₁ X₁.warmed) with ⟨v, B, X', hpost, hsteps⟩ | ⟨q, B, X', hpost, hsteps⟩
  · exact Or.inl ⟨v, vm₁, B, X₁.warmed, X', hpost, fun target h => hstep₁ _ fun acts => by rw [doInvoke_state]; exact hsteps.trans h⟩
  · exact Or.inr ⟨q, vm₁, B, X₁.warmed, X', hpost, hstep₁ _ fun acts => by rw [doInvoke_state]; exact hsteps⟩
theorem vx_callVW (X : Stand p l e R s m args below meth c T locs cells slots) (hexec : p.tables.exec = Jvm.exec) {own C : String} {index : Nat} {y : MethodName} {bytes : ByteArray} {maxL : Nat} {ret : Option FieldType} {hh : List (Nat × Nat × Nat × Nat)}
    (hown : s.vm.findClass own = some m.cls) (hlink : (Cond.methodLink own index y).before args s = true) (hinst : (Cond.instanceMethod y).before args s = true) (hsel : (Cond.selects C y y).before args s = true)
    (hcode : (Cond.codeWith y bytes maxL ret hh).before args s = true) (hy : y.cls ≠ "java/lang/invoke/MethodHandle" ∧ y.cls ≠ "java/lang/invoke/VarHandle")
    {W9 : Nat} {Pre : Pt → Array Value → Prop} {Post : Pt → Array Value → Option Value → Pt → Prop} (hK : Back l R p e below s args y 3 W9 Pre Post)
    {b : Addr} {cellB : Cell} (hcell : T.heap[b]? = some cellB) (hobj : cellB.vm.isStatics = false) (hcls : s.vm.findClass C = some cellB.cls)
    {g : JFrame} (hg : g.method = m) (hsize : g.locals.size = c.maxLocals) {argsL rest : List Value} (hlen : ∀ sig, parseMethodDescriptor y.desc = some sig → argsL.length = sig.parameters.length)
    (hstack : g.stack = argsL.reverse ++ .ref b :: rest) (hW : 2 * g.monitorRoom + (rest.map fun v => v.category).sum ≤ W9) (hdg : decode c.code g.pc = .ok (.invokevirtual index, 3))
    (hpre : ∀ vm₁, s.WarmedH vm₁ → Pre ⟨T.setVm vm₁, locs, cells, slots⟩ (Value.ref b :: argsL).toArray) :
    ∃ (v : Option Value) (vm₁ : Vm) (B : Pt), s.WarmedH vm₁ ∧ Stand p l e R s m args below meth c B.U B.locs B.cells B.slots ∧ Post ⟨T.setVm vm₁, locs, cells, slots⟩ (Value.ref b :: argsL).toArray v B ∧
      ∀ target, Steps p.tables e below (B.U.setTop { g with pc := g.pc + 3, stack := v.toList ++ rest }) target → Steps p.tables e below (T.setTop g) target := by
  obtain ⟨mk, methM, hnamed, hmethM, hstM, habM⟩ := Cond.instanceMethod_spec hinst
  obtain ⟨m8, methM', cM, hn8, hmethM', -, -, -, -, -, -, hsigM⟩ := Cond.codeWith_spec hcode
  cases Option.some.inj (hn8.symm.trans hnamed)
  cases hmethM.symm.trans hmethM'
  obtain ⟨c2, r2, m2, q1, q2, q3, q4, kP, hkP, hkPi⟩ := Cond.selects_spec hsel
  cases hcls.symm.trans q1
  cases (State.methodFound?_of_named hnamed hy).symm.trans q2
  cases hnamed.symm.trans q3
  have hselP : selectMethod e.platform s.vm cellB.cls mk = .method mk := by rw [Launch.admits_selectMethod X.admits]; exact q4
  obtain ⟨vm₁, X₁, hstep₁⟩ := X.invokevirtual hexec hown hlink hnamed hmethM hstM hkP hkPi hy (a := b) (cell := cellB) hcell
    (fun z h => by rw [h] at hobj; cases hobj) hselP hmethM habM hkP hkPi (g := g) hg (argsL := argsL) (rest := rest) (hlen _ hsigM) hstack hdg
  obtain ⟨v, B, X', hpost, hsteps⟩ := hK m meth c ⟨T.setVm vm₁, locs, cells, slots⟩ { g with stack := rest } (.invokevirtual index) mk (Value.ref b :: argsL).toArray X₁ hg hsize hdg hW (X₁.named hnamed) (hpre vm₁ X₁.warmed)
  exact ⟨v, vm₁, B, X₁.warmed, X', hpost, fun target h => hstep₁ _ fun acts => by rw [doInvoke_state]; exact hsteps.trans h⟩
abbrev vx_CVW (R : Room) (s : State) (args : Array Value) (own C : String) (index : Nat) (y : MethodName) (bytes : ByteArray) (maxL : Nat) (ret : Option FieldType) (hh : List (Nat × Nat × Nat × Nat)) (ws : List Cond) (rm : Room) (mc ms n : Nat) : Prop :=
  (rm.cells = mc ∧ rm.slots = ms ∧ rm.frames + 1 ≤ R.frames ∧ 8 + (maxL + 11) + rm.locals ≤ R.locals ∧ (∀ w ∈ ws, ∀ (a' : Array Value) (U : State), s.WarmedH U.vm → w.before a' U = true) ∧ Cond.codeWith y bytes maxL ret hh ∈ ws) ∧
  (Cond.codeWith y bytes maxL ret hh).before args s = true ∧ (Cond.initialized y.cls).before args s = true ∧ (y.cls ≠ "java/lang/invoke/MethodHandle" ∧ y.cls ≠ "java/lang/invoke/VarHandle") ∧
  (∀ sig, parseMethodDescriptor y.desc = some sig → n = sig.parameters.length) ∧ (Cond.methodLink own index y).before args s = true ∧ (Cond.instanceMethod y).before args s = true ∧ (Cond.selects C y y).before args s = true
theorem vx_cwVW {own C : String} {index maxL mc ms : Nat} {y : MethodName} {bytes : ByteArray} {ret : Option FieldType} {hh : List (Nat × Nat × Nat × Nat)} {Ts ws ws' : List Cond} {rm : Room} (n : Nat) (ht : ∀ w ∈ Ts, w.before args s = true) (hT : GoodIn Ts (wsV own index C y ws)) (hw : ws = Cond.codeWith y bytes maxL ret hh :: ws') (hrc : rm.cells = mc) (hrs : rm.slots = ms)
    (hd : y.cls = C ∧ y.cls ≠ "java/lang/invoke/MethodHandle" ∧ y.cls ≠ "java/lang/invoke/VarHandle" ∧ (parseMethodDescriptor y.desc).map (fun d => d.parameters.length) = some n) (hR : rm.frames + 1 ≤ R.frames ∧ 8 + (maxL + 11) + rm.locals ≤ R.locals) :
    vx_CVW R s args own C index y bytes maxL ret hh ws rm mc ms n := by
  obtain ⟨hC, hd⟩ := hd
  subst hC
  have ok : ∀ w ∈ wsV own index y.cls y ws, w.before args s = true := fun w h => ht w (hT w h).1
  have hG : GoodIn Ts ws := fun w h => hT w (by unfold wsV; exact List.mem_append_right _ h)
  have hc : Cond.codeWith y bytes maxL ret hh ∈ ws := by rw [hw]; exact List.mem_cons_self
  refine ⟨⟨hrc, hrs, hR.1, hR.2, pay_in ht hG, hc⟩, ht _ (hG _ hc).1, ok _ (by simp [wsV]), ⟨hd.1, hd.2.1⟩, fun sig h => ?_, ok _ (by simp [wsV]), ok _ (by simp [wsV]), ok _ (by simp [wsV])⟩
  have h2 := hd.2.2
  rw [h] at h2
  exact (Option.some.inj h2).symm
theorem vx_runVW {y : MethodName} {bytes cc : ByteArray} {maxL nL mc ms n index : Nat} {ret : Option FieldType} {hh : List (Nat × Nat × Nat × Nat)} {ws : List Cond} {rm : Room} {Pc : Array Value → State → Prop} {Qc : Array Value → State → Outcome → State → Prop} {free : Addr → Prop} {Ts : List Cond} {own C : String} {b : Addr} {As rest : List Value} {g : JFrame}
    (S : CallFix p m c cc nL s args Ts own) (hM : Met l y ws rm Pc Qc mc ms free) (cw : vx_CVW R s args own C index y bytes maxL ret hh ws rm mc ms n) (hp : PreV s H C b Pc As)
    (hg : g.method = m) (hn : As.length = n) (hsize : g.locals.size = nL) (hstack : g.stack = As.reverse ++ .ref b :: rest) (hW : 2 * g.monitorRoom + (rest.map fun v => v.category).sum ≤ 8) (hdg : decode cc g.pc = .ok (.invokevirtual index, 3)) (hf : cells + mc ≤ R.cells ∧ slots + ms ≤ R.slots) :
    va_Run p l e R s m args below meth c H locs cells slots mc ms g rest (Qc (Value.ref b :: As).toArray) free := by
  obtain ⟨⟨hrc, hrs, hfr, hlo, hws, hcw⟩, hcode, hini, hy, hlen, hl, hin, hse⟩ := cw
  have hK : Back l R p e below s args y 3 8 (PreOf R mc ms Pc) (PostOf Qc mc ms free) := va_backW (hh := hh) (bytes := bytes) (maxL := maxL) (ret := ret) hM hp.1 hrc hrs hfr hlo hws hcw (fun a' U hW => word_at hW (Or.inl (by first | rfl | simp [Cond.onTables, Cond.keeps, Cond.steady])) hini)
  obtain ⟨hx, hb, hml, ho, -⟩ := S
  obtain ⟨-, ⟨cellB, hcB, hoB, hclB⟩, hPc⟩ := hp
  intro T hT X
  obtain ⟨v, vm₁, ⟨U', l2, c2, s2⟩, hW₁, X', ⟨g', mk, t, L, e1, e2, hq, h1, hL, h2, h3⟩, st⟩ := vx_callVW X hx (C := C) (hh := hh) (bytes := bytes) (maxL := maxL) (ret := ret) ho hl hin hse hcode hy hK (by rw [hT]; exact hcB) hoB hclB hg (hsize.trans hml.symm) (argsL := As) (rest := rest) (fun sig h => hn.trans (hlen sig h)) hstack hW (by rw [hb]; exact hdg)
    (fun vm₁ hW₁ => ⟨hf.1, hf.2, hPc (T.setVm vm₁) hT hW₁⟩)
  dsimp only [Pt.U, Pt.locs, Pt.cells, Pt.slots] at X' e1 e2 h1 h2 h3 st
  subst h1; subst h2; subst h3
  exact ⟨v, (T.setVm vm₁).calling g' mk (Value.ref b :: As).toArray, t, U', L, hT, X', hL, e1, e2, hq, st⟩
section
variable {y : MethodName} {bytes cc : ByteArray} {maxL nL mc ms n index : Nat} {ret : Option FieldType} {ws : List Cond} {rm : Room} {Pc : Array Value → State → Prop} {Qc : Array Value → State → Outcome → State → Prop} {XC : String → State → State → Prop} {free : Addr → Prop} {Ts : List Cond} {own C : String} {b : Addr} {As rest : List Value} {g : JFrame}
theorem vx_runVX {hh : List (Nat × Nat × Nat × Nat)} (S : CallFix p m c cc nL s args Ts own) (hM : vx_Met l y ws rm Pc Qc XC mc ms free) (cw : vx_CVW R s args own C index y bytes maxL ret hh ws rm mc ms n) (hp : PreV s H C b Pc As)
    (hg : g.method = m) (hn : As.length = n) (hsize : g.locals.size = nL) (hstack : g.stack = As.reverse ++ .ref b :: rest) (hW : 2 * g.monitorRoom + (rest.map fun v => v.category).sum ≤ 8) (hdg : decode cc g.pc = .ok (.invokevirtual index, 3)) (hf : cells + mc ≤ R.cells ∧ slots + ms ≤ R.slots) :
    vx_Run p l e R s m args below meth c H locs cells slots mc ms g rest (Qc (Value.ref b :: As).toArray) XC free := by
  obtain ⟨⟨hrc, hrs, hfr, hlo, hws, hcw⟩, hcode, hini, hy, hlen, hl, hin, hse⟩ := cw
  have hK : vx_Back l R p e below s args y 3 8 (PreOf R mc ms Pc) (PostOf Qc mc ms free) (vx_Post XC mc ms free) := vx_backW (hh := hh) (bytes := bytes) (maxL := maxL) (ret := ret) hM hp.1 hrc hrs hfr hlo hws hcw (fun a' U hW => word_at hW (Or.inl (by first | rfl | simp [Cond.onTables, Cond.keeps, Cond.steady])) hini)
  obtain ⟨hx, hb, hml, ho, -⟩ := S
  obtain ⟨-, ⟨cellB, hcB, hoB, hclB⟩, hPc⟩ := hp
  intro T hT X
  rcases vx_callVX X hx (C := C) (hh := hh) (bytes := bytes) (maxL := maxL) (ret := ret) ho hl hin hse hcode hy hK (by rw [hT]; exact hcB) hoB hclB hg (hsize.trans hml.symm) (argsL := As) (rest := rest) (fun sig h => hn.trans (hlen sig h)) hstack hW (by rw [hb]; exact hdg)
    (fun vm₁ hW₁ => ⟨hf.1, hf.2, hPc (T.setVm vm₁) hT hW₁⟩) with ⟨v, vm₁, ⟨U', l2, c2, s2⟩, hW₁, X', ⟨g', mk, t, L, e1, e2, hq, h1, hL, h2, h3⟩, st⟩ | ⟨q, vm₁, ⟨U', l2, c2, s2⟩, hW₁, X', ⟨g', mk, t, L, E, ce, e1, e2, hq, hce, hcv, hcl, h1, hL, h2, h3⟩, st⟩
  · dsimp only [Pt.U, Pt.locs, Pt.cells, Pt.slots] at X' e1 e2 h1 h2 h3 st
    subst h1; subst h2; subst h3
    exact Or.inl ⟨v, (T.setVm vm₁).calling g' mk (Value.ref b :: As).toArray, t, U', L, hT, X', hL, e1, e2, hq, st⟩
  · dsimp only [Pt.U, Pt.locs, Pt.cells, Pt.slots] at X' e1 e2 h1 h2 h3 st hcl
    subst h1; subst h2; subst h3
    exact Or.inr ⟨q, (T.setVm vm₁).calling g' mk (Value.ref b :: As).toArray, t, U', L, E, ce, hT, X', hL, e1, e2, hq, hce, hcv, vx_cls hW₁ hcl, st⟩
theorem vx_runSX {hh : List (Nat × Nat × Nat × Nat)} (S : CallFix p m c cc nL s args Ts own) (hM : vx_Met l y ws rm Pc Qc XC mc ms free) (cw : vx_CSW R s args own index y bytes maxL ret hh ws rm mc ms n) (hp : PreS s H Pc As)
    (hg : g.method = m) (hn : As.length = n) (hsize : g.locals.size = nL) (hstack : g.stack = As.reverse ++ rest) (hW : 2 * g.monitorRoom + (rest.map fun v => v.category).sum ≤ 8) (hdg : decode cc g.pc = .ok (.invokestatic index, 3)) (hf : cells + mc ≤ R.cells ∧ slots + ms ≤ R.slots) :
    vx_Run p l e R s m args below meth c H locs cells slots mc ms g rest (Qc As.toArray) XC free := by
  obtain ⟨⟨hrc, hrs, hfr, hlo, hws, hcw⟩, hcode, hini, hy, hlen, hl, hstt⟩ := cw
  have hK : vx_Back l R p e below s args y 3 8 (PreOf R mc ms Pc) (PostOf Qc mc ms free) (vx_Post XC mc ms free) := vx_backW (hh := hh) (bytes := bytes) (maxL := maxL) (ret := ret) hM hp.1 hrc hrs hfr hlo hws hcw (fun a' U hW => word_at hW (Or.inl (by first | rfl | simp [Cond.onTables, Cond.keeps, Cond.steady])) hini)
  obtain ⟨hx, hb, hml, ho, -⟩ := S
  intro T hT X
  rcases vx_callSX X hx (hh := hh) (bytes := bytes) (maxL := maxL) (ret := ret) ho hl hstt hini hcode hy hK hg (hsize.trans hml.symm) (argsL := As) (rest := rest) (fun sig h => hn.trans (hlen sig h)) hstack hW (by rw [hb]; exact hdg)
    (fun vm₁ hW₁ => ⟨hf.1, hf.2, hp.2 (T.setVm vm₁) hT hW₁⟩) with ⟨v, vm₁, ⟨U', l2, c2, s2⟩, hW₁, X', ⟨g', mk, t, L, e1, e2, hq, h1, hL, h2, h3⟩, st⟩ | ⟨q, vm₁, ⟨U', l2, c2, s2⟩, hW₁, X', ⟨g', mk, t, L, E, ce, e1, e2, hq, hce, hcv, hcl, h1, hL, h2, h3⟩, st⟩
  · dsimp only [Pt.U, Pt.locs, Pt.cells, Pt.slots] at X' e1 e2 h1 h2 h3 st
    subst h1; subst h2; subst h3
    exact Or.inl ⟨v, (T.setVm vm₁).calling g' mk As.toArray, t, U', L, hT, X', hL, e1, e2, hq, st⟩
  · dsimp only [Pt.U, Pt.locs, Pt.cells, Pt.slots] at X' e1 e2 h1 h2 h3 st hcl
    subst h1; subst h2; subst h3
    exact Or.inr ⟨q, (T.setVm vm₁).calling g' mk As.toArray, t, U', L, E, ce, hT, X', hL, e1, e2, hq, hce, hcv, vx_cls hW₁ hcl, st⟩
end
end VXH
theorem vx_ofWH {l : Launch} {y : MethodName} {ws ws' : List Cond} {rm : Room} {Pc : Array Value → State → Prop} {Qc : Array Value → State → Outcome → State → Prop} {XC : String → State → State → Prop} {mc ms : Nat} {free : Addr → Prop} {cc : ByteArray} {maxL : Nat} {ret : Option FieldType} {hh : List (Nat × Nat × Nat × Nat)}
    (hy : plainName y.cls = true) (hw : ws = Cond.codeWith y cc maxL ret hh :: ws')
    (body : ∀ p e s m args below meth c s₁, BodyLoose p l y (headSpec ws rm) cc maxL ret e s m args below meth c s₁ → c.maxLocals = maxL → Pc args s →
      W p l e (headSpec ws rm).room s m args below meth c s.heap [] 0 0 (vx_MQ below Qc XC args s mc ms free) (entryFrame m args maxL)) : vx_Met l y ws rm Pc Qc XC mc ms free := by
  refine MetFree.of_bodyS (code := cc) (maxLocals := maxL) (ret := ret) hy ?_ ?_
  · intro args s m h hn
    obtain ⟨m9, meth, c, hn9, h1, h2, h3, h4, -, h5, h6, -⟩ := Cond.codeWith_spec (atoms_spec (ws := ws) h _ (by rw [hw]; exact List.mem_cons_self))
    cases hn.symm.trans hn9
    exact ⟨meth, c, h1, h2, h3, h4, h5, h6⟩
  · intro p e s m args below meth c s₁ B hml hP _
    have hh0 : s₁.heap = s.heap := by rw [B.state]; rfl
    obtain ⟨t, a1, o, b1, b2, b3⟩ := body p e s m args below meth c s₁ B hml hP s₁ hh0 (Stand.of_body B)
    exact ⟨t, o, a1, b1, b2, b3⟩
/-! ===== END ===== -/
end
section
def RX0 : String := "PlateArm$1"
def TX0 : u_T := fun k => match k with
  | _ => ("", "", "", false)
def tyX0 : Nat → FieldType := fun k => match k with
  | _ => .int
abbrev wsX00 : List Cond := u_ws RX0 TX0 0
theorem nmX0 : ∀ a, a < 0 → ∀ b, b < 0 → a ≠ b → (TX0 a).2.1 ≠ (TX0 b).2.1 := by decide +kernel
theorem tyX0_ok : ∀ k, k < 0 → parseFieldDescriptor (TX0 k).2.2.1 = some (tyX0 k) := by decide +kernel
def RX1 : String := "PlateArm$Arm"
def TX1 : u_T := fun k => match k with
  | 0 => ("PlateArm$Arm", "track", "I", false)
  | 1 => ("PlateArm$Arm", "direction", "I", false)
  | 2 => ("PlateArm$Arm", "heat", "I", false)
  | 3 => ("PlateArm$Arm", "rests", "Z", false)
  | _ => ("PlateArm$Arm", "sweep", "I", false)
def tyX1 : Nat → FieldType := fun k => match k with
  | 0 => .int
  | 1 => .int
  | 2 => .int
  | 3 => .boolean
  | _ => .int
abbrev wsX10 : List Cond := u_ws RX1 TX1 5
theorem nmX1 : ∀ a, a < 5 → ∀ b, b < 5 → a ≠ b → (TX1 a).2.1 ≠ (TX1 b).2.1 := by decide +kernel
theorem tyX1_ok : ∀ k, k < 5 → parseFieldDescriptor (TX1 k).2.2.1 = some (tyX1 k) := by decide +kernel
abbrev cX1_init : ByteArray := prog_3_method_1_code
def yX1_init : MethodName := ⟨RX1, "<init>", "()V"⟩
abbrev cX1_opposite : ByteArray := prog_3_method_2_code
def yX1_opposite : MethodName := ⟨RX1, "opposite", "(I)I"⟩
abbrev cX1_reset : ByteArray := prog_3_method_3_code
def yX1_reset : MethodName := ⟨RX1, "reset", "()V"⟩
abbrev cX1_copyFrom : ByteArray := prog_3_method_4_code
def yX1_copyFrom : MethodName := ⟨RX1, "copyFrom", "(LPlateArm$Arm;)V"⟩
abbrev cX1_liesFarther : ByteArray := prog_3_method_5_code
def yX1_liesFarther : MethodName := ⟨RX1, "liesFarther", "(I)Z"⟩
abbrev cX1_step : ByteArray := prog_3_method_6_code
def yX1_step : MethodName := ⟨RX1, "step", "()V"⟩
abbrev cX1_cool : ByteArray := prog_3_method_7_code
def yX1_cool : MethodName := ⟨RX1, "cool", "(I)V"⟩
def RX2 : String := "PlateArm$CommandScan"
def TX2 : u_T := fun k => match k with
  | 0 => ("PlateArm$CommandScan", "word", "LPlateArm$Word;", false)
  | 1 => ("PlateArm$CommandScan", "numbers", "[I", true)
  | 2 => ("PlateArm$CommandScan", "place", "I", false)
  | 3 => ("PlateArm$CommandScan", "wordStart", "I", false)
  | 4 => ("PlateArm$CommandScan", "numberCount", "I", false)
  | _ => ("PlateArm$CommandScan", "digits", "I", false)
def tyX2 : Nat → FieldType := fun k => match k with
  | 0 => .object "PlateArm$Word"
  | 1 => .array .int
  | 2 => .int
  | 3 => .int
  | 4 => .int
  | _ => .int
abbrev wsX20 : List Cond := u_ws RX2 TX2 6
theorem nmX2 : ∀ a, a < 6 → ∀ b, b < 6 → a ≠ b → (TX2 a).2.1 ≠ (TX2 b).2.1 := by decide +kernel
theorem tyX2_ok : ∀ k, k < 6 → parseFieldDescriptor (TX2 k).2.2.1 = some (tyX2 k) := by decide +kernel
abbrev cX2_init : ByteArray := prog_4_method_1_code
def yX2_init : MethodName := ⟨RX2, "<init>", "()V"⟩
abbrev cX2_begin : ByteArray := prog_4_method_2_code
def yX2_begin : MethodName := ⟨RX2, "begin", "()V"⟩
abbrev cX2_faultOf : ByteArray := prog_4_method_3_code
def yX2_faultOf : MethodName := ⟨RX2, "faultOf", "(LPlateArm$CommandText;)I"⟩
abbrev cX2_take : ByteArray := prog_4_method_4_code
def yX2_take : MethodName := ⟨RX2, "take", "(LPlateArm$CommandText;I)I"⟩
abbrev cX2_takeInFront : ByteArray := prog_4_method_5_code
def yX2_takeInFront : MethodName := ⟨RX2, "takeInFront", "(II)I"⟩
abbrev cX2_takeInWord : ByteArray := prog_4_method_6_code
def yX2_takeInWord : MethodName := ⟨RX2, "takeInWord", "(LPlateArm$CommandText;II)I"⟩
abbrev cX2_takeInGap : ByteArray := prog_4_method_7_code
def yX2_takeInGap : MethodName := ⟨RX2, "takeInGap", "(II)I"⟩
abbrev cX2_takeInNumber : ByteArray := prog_4_method_8_code
def yX2_takeInNumber : MethodName := ⟨RX2, "takeInNumber", "(II)I"⟩
abbrev cX2_takeBehindNumber : ByteArray := prog_4_method_9_code
def yX2_takeBehindNumber : MethodName := ⟨RX2, "takeBehindNumber", "(II)I"⟩
abbrev cX2_wordIn : ByteArray := prog_4_method_10_code
def yX2_wordIn : MethodName := ⟨RX2, "wordIn", "(LPlateArm$CommandText;II)LPlateArm$Word;"⟩
abbrev cX2_isLetter : ByteArray := prog_4_method_11_code
def yX2_isLetter : MethodName := ⟨RX2, "isLetter", "(I)Z"⟩
abbrev cX2_isDigit : ByteArray := prog_4_method_12_code
def yX2_isDigit : MethodName := ⟨RX2, "isDigit", "(I)Z"⟩
def RX3 : String := "PlateArm$CommandText"
def TX3 : u_T := fun k => match k with
  | 0 => ("PlateArm$CommandText", "length", "I", false)
  | _ => ("PlateArm$CommandText", "bytes", "[B", true)
def tyX3 : Nat → FieldType := fun k => match k with
  | 0 => .int
  | _ => .array .byte
abbrev wsX30 : List Cond := u_ws RX3 TX3 2
theorem nmX3 : ∀ a, a < 2 → ∀ b, b < 2 → a ≠ b → (TX3 a).2.1 ≠ (TX3 b).2.1 := by decide +kernel
theorem tyX3_ok : ∀ k, k < 2 → parseFieldDescriptor (TX3 k).2.2.1 = some (tyX3 k) := by decide +kernel
abbrev cX3_init : ByteArray := prog_5_method_1_code
def yX3_init : MethodName := ⟨RX3, "<init>", "()V"⟩
abbrev cX3_isFull : ByteArray := prog_5_method_2_code
def yX3_isFull : MethodName := ⟨RX3, "isFull", "()Z"⟩
abbrev cX3_append : ByteArray := prog_5_method_3_code
def yX3_append : MethodName := ⟨RX3, "append", "(I)I"⟩
abbrev cX3_byteAt : ByteArray := prog_5_method_4_code
def yX3_byteAt : MethodName := ⟨RX3, "byteAt", "(I)I"⟩
abbrev cX3_holds : ByteArray := prog_5_method_5_code
def yX3_holds : MethodName := ⟨RX3, "holds", "(Ljava/lang/String;II)Z"⟩
def RX4 : String := "PlateArm$Log"
def TX4 : u_T := fun k => match k with
  | 0 => ("PlateArm$Log", "written", "I", false)
  | _ => ("PlateArm$Log", "cells", "[I", true)
def tyX4 : Nat → FieldType := fun k => match k with
  | 0 => .int
  | _ => .array .int
abbrev wsX40 : List Cond := u_ws RX4 TX4 2
theorem nmX4 : ∀ a, a < 2 → ∀ b, b < 2 → a ≠ b → (TX4 a).2.1 ≠ (TX4 b).2.1 := by decide +kernel
theorem tyX4_ok : ∀ k, k < 2 → parseFieldDescriptor (TX4 k).2.2.1 = some (tyX4 k) := by decide +kernel
abbrev cX4_init : ByteArray := prog_6_method_1_code
def yX4_init : MethodName := ⟨RX4, "<init>", "()V"⟩
abbrev cX4_reset : ByteArray := prog_6_method_2_code
def yX4_reset : MethodName := ⟨RX4, "reset", "()V"⟩
abbrev cX4_copyFrom : ByteArray := prog_6_method_3_code
def yX4_copyFrom : MethodName := ⟨RX4, "copyFrom", "(LPlateArm$Log;)V"⟩
abbrev cX4_kept : ByteArray := prog_6_method_4_code
def yX4_kept : MethodName := ⟨RX4, "kept", "()I"⟩
abbrev cX4_write : ByteArray := prog_6_method_5_code
def yX4_write : MethodName := ⟨RX4, "write", "(IIIIZ)V"⟩
abbrev cX4_valueOf : ByteArray := prog_6_method_6_code
def yX4_valueOf : MethodName := ⟨RX4, "valueOf", "(II)I"⟩
def RX5 : String := "PlateArm$Requests"
def TX5 : u_T := fun k => match k with
  | 0 => ("PlateArm$Requests", "count", "I", false)
  | 1 => ("PlateArm$Requests", "told", "I", false)
  | 2 => ("PlateArm$Requests", "numbers", "[I", true)
  | 3 => ("PlateArm$Requests", "tracks", "[I", true)
  | 4 => ("PlateArm$Requests", "sectors", "[I", true)
  | 5 => ("PlateArm$Requests", "deadlines", "[I", true)
  | _ => ("PlateArm$Requests", "toldIn", "[I", true)
def tyX5 : Nat → FieldType := fun k => match k with
  | 0 => .int
  | 1 => .int
  | 2 => .array .int
  | 3 => .array .int
  | 4 => .array .int
  | 5 => .array .int
  | _ => .array .int
abbrev wsX50 : List Cond := u_ws RX5 TX5 7
theorem nmX5 : ∀ a, a < 7 → ∀ b, b < 7 → a ≠ b → (TX5 a).2.1 ≠ (TX5 b).2.1 := by decide +kernel
theorem tyX5_ok : ∀ k, k < 7 → parseFieldDescriptor (TX5 k).2.2.1 = some (tyX5 k) := by decide +kernel
abbrev cX5_init : ByteArray := prog_7_method_1_code
def yX5_init : MethodName := ⟨RX5, "<init>", "()V"⟩
abbrev cX5_reset : ByteArray := prog_7_method_2_code
def yX5_reset : MethodName := ⟨RX5, "reset", "()V"⟩
abbrev cX5_copyFrom : ByteArray := prog_7_method_3_code
def yX5_copyFrom : MethodName := ⟨RX5, "copyFrom", "(LPlateArm$Requests;)V"⟩
abbrev cX5_isFull : ByteArray := prog_7_method_4_code
def yX5_isFull : MethodName := ⟨RX5, "isFull", "()Z"⟩
abbrev cX5_add : ByteArray := prog_7_method_5_code
def yX5_add : MethodName := ⟨RX5, "add", "(IIII)I"⟩
abbrev cX5_indexOf : ByteArray := prog_7_method_6_code
def yX5_indexOf : MethodName := ⟨RX5, "indexOf", "(I)I"⟩
abbrev cX5_move : ByteArray := prog_7_method_7_code
def yX5_move : MethodName := ⟨RX5, "move", "(II)V"⟩
abbrev cX5_removeAt : ByteArray := prog_7_method_8_code
def yX5_removeAt : MethodName := ⟨RX5, "removeAt", "(I)V"⟩
abbrev cX5_spread : ByteArray := prog_7_method_9_code
def yX5_spread : MethodName := ⟨RX5, "spread", "()I"⟩
def RX6 : String := "PlateArm$State"
def TX6 : u_T := fun k => match k with
  | 0 => ("PlateArm$State", "tracks", "I", false)
  | 1 => ("PlateArm$State", "sectors", "I", false)
  | 2 => ("PlateArm$State", "tick", "I", false)
  | 3 => ("PlateArm$State", "settings", "[I", true)
  | 4 => ("PlateArm$State", "arm", "LPlateArm$Arm;", true)
  | 5 => ("PlateArm$State", "requests", "LPlateArm$Requests;", true)
  | 6 => ("PlateArm$State", "log", "LPlateArm$Log;", true)
  | _ => ("PlateArm$State", "tally", "LPlateArm$Tally;", true)
def tyX6 : Nat → FieldType := fun k => match k with
  | 0 => .int
  | 1 => .int
  | 2 => .int
  | 3 => .array .int
  | 4 => .object "PlateArm$Arm"
  | 5 => .object "PlateArm$Requests"
  | 6 => .object "PlateArm$Log"
  | _ => .object "PlateArm$Tally"
abbrev wsX60 : List Cond := u_ws RX6 TX6 8
theorem nmX6 : ∀ a, a < 8 → ∀ b, b < 8 → a ≠ b → (TX6 a).2.1 ≠ (TX6 b).2.1 := by decide +kernel
theorem tyX6_ok : ∀ k, k < 8 → parseFieldDescriptor (TX6 k).2.2.1 = some (tyX6 k) := by decide +kernel
abbrev cX6_init : ByteArray := prog_8_method_1_code
def yX6_init : MethodName := ⟨RX6, "<init>", "()V"⟩
abbrev cX6_putIn : ByteArray := prog_8_method_2_code
def yX6_putIn : MethodName := ⟨RX6, "putIn", "(II)V"⟩
abbrev cX6_copyFrom : ByteArray := prog_8_method_3_code
def yX6_copyFrom : MethodName := ⟨RX6, "copyFrom", "(LPlateArm$State;)V"⟩
abbrev cX6_sectorUnderArm : ByteArray := prog_8_method_4_code
def yX6_sectorUnderArm : MethodName := ⟨RX6, "sectorUnderArm", "()I"⟩
abbrev cX6_passTicks : ByteArray := prog_8_method_5_code
def yX6_passTicks : MethodName := ⟨RX6, "passTicks", "(I)V"⟩
abbrev cX6_passUntilEmpty : ByteArray := prog_8_method_6_code
def yX6_passUntilEmpty : MethodName := ⟨RX6, "passUntilEmpty", "()I"⟩
abbrev cX6_tickOfReading : ByteArray := prog_8_method_7_code
def yX6_tickOfReading : MethodName := ⟨RX6, "tickOfReading", "(I)I"⟩
abbrev cX6_targetBy : ByteArray := prog_8_method_8_code
def yX6_targetBy : MethodName := ⟨RX6, "targetBy", "(I)I"⟩
abbrev cX6_hindranceOf : ByteArray := prog_8_method_9_code
def yX6_hindranceOf : MethodName := ⟨RX6, "hindranceOf", "(I)I"⟩
abbrev cX6_beginTick : ByteArray := prog_8_method_10_code
def yX6_beginTick : MethodName := ⟨RX6, "beginTick", "()V"⟩
abbrev cX6_endTick : ByteArray := prog_8_method_11_code
def yX6_endTick : MethodName := ⟨RX6, "endTick", "()V"⟩
abbrev cX6_lowest : ByteArray := prog_8_method_12_code
def yX6_lowest : MethodName := ⟨RX6, "lowest", "(II)I"⟩
abbrev cX6_rankOf : ByteArray := prog_8_method_13_code
def yX6_rankOf : MethodName := ⟨RX6, "rankOf", "(III)I"⟩
abbrev cX6_start : ByteArray := prog_8_method_14_code
def yX6_start : MethodName := ⟨RX6, "start", "(I)V"⟩
abbrev cX6_moveOn : ByteArray := prog_8_method_15_code
def yX6_moveOn : MethodName := ⟨RX6, "moveOn", "(I)V"⟩
abbrev cX6_readUnderArm : ByteArray := prog_8_method_16_code
def yX6_readUnderArm : MethodName := ⟨RX6, "readUnderArm", "()V"⟩
abbrev cX6_giveUp : ByteArray := prog_8_method_17_code
def yX6_giveUp : MethodName := ⟨RX6, "giveUp", "()V"⟩
def RX7 : String := "PlateArm$Tally"
def TX7 : u_T := fun k => match k with
  | 0 => ("PlateArm$Tally", "late", "I", false)
  | 1 => ("PlateArm$Tally", "givenUp", "I", false)
  | 2 => ("PlateArm$Tally", "steps", "I", false)
  | 3 => ("PlateArm$Tally", "starts", "I", false)
  | 4 => ("PlateArm$Tally", "brakings", "I", false)
  | 5 => ("PlateArm$Tally", "restedTicks", "I", false)
  | _ => ("PlateArm$Tally", "greatestHeat", "I", false)
def tyX7 : Nat → FieldType := fun k => match k with
  | 0 => .int
  | 1 => .int
  | 2 => .int
  | 3 => .int
  | 4 => .int
  | 5 => .int
  | _ => .int
abbrev wsX70 : List Cond := u_ws RX7 TX7 7
theorem nmX7 : ∀ a, a < 7 → ∀ b, b < 7 → a ≠ b → (TX7 a).2.1 ≠ (TX7 b).2.1 := by decide +kernel
theorem tyX7_ok : ∀ k, k < 7 → parseFieldDescriptor (TX7 k).2.2.1 = some (tyX7 k) := by decide +kernel
abbrev cX7_init : ByteArray := prog_9_method_1_code
def yX7_init : MethodName := ⟨RX7, "<init>", "()V"⟩
abbrev cX7_reset : ByteArray := prog_9_method_2_code
def yX7_reset : MethodName := ⟨RX7, "reset", "()V"⟩
abbrev cX7_copyFrom : ByteArray := prog_9_method_3_code
def yX7_copyFrom : MethodName := ⟨RX7, "copyFrom", "(LPlateArm$Tally;)V"⟩
def RX8 : String := "PlateArm$Word"
def TX8 : u_T := fun k => match k with
  | _ => ("", "", "", false)
def tyX8 : Nat → FieldType := fun k => match k with
  | _ => .int
abbrev wsX80 : List Cond := u_ws RX8 TX8 0
theorem nmX8 : ∀ a, a < 0 → ∀ b, b < 0 → a ≠ b → (TX8 a).2.1 ≠ (TX8 b).2.1 := by decide +kernel
theorem tyX8_ok : ∀ k, k < 0 → parseFieldDescriptor (TX8 k).2.2.1 = some (tyX8 k) := by decide +kernel
def RX9 : String := "PlateArm"
def TX9 : u_T := fun k => match k with
  | 0 => ("PlateArm", "state", "LPlateArm$State;", true)
  | 1 => ("PlateArm", "trial", "LPlateArm$State;", true)
  | 2 => ("PlateArm", "saved", "[LPlateArm$State;", true)
  | 3 => ("PlateArm", "savedCount", "I", false)
  | 4 => ("PlateArm", "forecasts", "[[I", true)
  | 5 => ("PlateArm", "text", "LPlateArm$CommandText;", true)
  | _ => ("PlateArm", "scan", "LPlateArm$CommandScan;", true)
def tyX9 : Nat → FieldType := fun k => match k with
  | 0 => .object "PlateArm$State"
  | 1 => .object "PlateArm$State"
  | 2 => .array (.object "PlateArm$State")
  | 3 => .int
  | 4 => .array (.array .int)
  | 5 => .object "PlateArm$CommandText"
  | _ => .object "PlateArm$CommandScan"
abbrev wsX90 : List Cond := u_ws RX9 TX9 7
theorem nmX9 : ∀ a, a < 7 → ∀ b, b < 7 → a ≠ b → (TX9 a).2.1 ≠ (TX9 b).2.1 := by decide +kernel
theorem tyX9_ok : ∀ k, k < 7 → parseFieldDescriptor (TX9 k).2.2.1 = some (tyX9 k) := by decide +kernel
abbrev cX9_init : ByteArray := prog_1_method_1_code
def yX9_init : MethodName := ⟨RX9, "<init>", "()V"⟩
abbrev cX9_plate : ByteArray := prog_1_method_2_code
def yX9_plate : MethodName := ⟨RX9, "plate", "(II)I"⟩
abbrev cX9_request : ByteArray := prog_1_method_3_code
def yX9_request : MethodName := ⟨RX9, "request", "(III)I"⟩
abbrev cX9_cancel : ByteArray := prog_1_method_4_code
def yX9_cancel : MethodName := ⟨RX9, "cancel", "(I)I"⟩
abbrev cX9_set : ByteArray := prog_1_method_5_code
def yX9_set : MethodName := ⟨RX9, "set", "(II)I"⟩
abbrev cX9_pass : ByteArray := prog_1_method_6_code
def yX9_pass : MethodName := ⟨RX9, "pass", "(I)I"⟩
abbrev cX9_finish : ByteArray := prog_1_method_7_code
def yX9_finish : MethodName := ⟨RX9, "finish", "()I"⟩
abbrev cX9_requestOf : ByteArray := prog_1_method_8_code
def yX9_requestOf : MethodName := ⟨RX9, "requestOf", "(II)I"⟩
abbrev cX9_requestAt : ByteArray := prog_1_method_9_code
def yX9_requestAt : MethodName := ⟨RX9, "requestAt", "(I)I"⟩
abbrev cX9_logged : ByteArray := prog_1_method_10_code
def yX9_logged : MethodName := ⟨RX9, "logged", "(II)I"⟩
abbrev cX9_arm : ByteArray := prog_1_method_11_code
def yX9_arm : MethodName := ⟨RX9, "arm", "(I)I"⟩
abbrev cX9_whole : ByteArray := prog_1_method_12_code
def yX9_whole : MethodName := ⟨RX9, "whole", "(I)I"⟩
abbrev cX9_target : ByteArray := prog_1_method_13_code
def yX9_target : MethodName := ⟨RX9, "target", "(I)I"⟩
abbrev cX9_readIn : ByteArray := prog_1_method_14_code
def yX9_readIn : MethodName := ⟨RX9, "readIn", "(I)I"⟩
abbrev cX9_finishBy : ByteArray := prog_1_method_15_code
def yX9_finishBy : MethodName := ⟨RX9, "finishBy", "(II)I"⟩
abbrev cX9_bestWay : ByteArray := prog_1_method_16_code
def yX9_bestWay : MethodName := ⟨RX9, "bestWay", "()I"⟩
abbrev cX9_heatIn : ByteArray := prog_1_method_17_code
def yX9_heatIn : MethodName := ⟨RX9, "heatIn", "(I)I"⟩
abbrev cX9_widest : ByteArray := prog_1_method_18_code
def yX9_widest : MethodName := ⟨RX9, "widest", "()I"⟩
abbrev cX9_reason : ByteArray := prog_1_method_19_code
def yX9_reason : MethodName := ⟨RX9, "reason", "(I)I"⟩
abbrev cX9_type : ByteArray := prog_1_method_20_code
def yX9_type : MethodName := ⟨RX9, "type", "(I)I"⟩
abbrev cX9_clearCommands : ByteArray := prog_1_method_21_code
def yX9_clearCommands : MethodName := ⟨RX9, "clearCommands", "()I"⟩
abbrev cX9_runCommands : ByteArray := prog_1_method_22_code
def yX9_runCommands : MethodName := ⟨RX9, "runCommands", "()I"⟩
abbrev cX9_undo : ByteArray := prog_1_method_23_code
def yX9_undo : MethodName := ⟨RX9, "undo", "()I"⟩
abbrev cX9_digest : ByteArray := prog_1_method_24_code
def yX9_digest : MethodName := ⟨RX9, "digest", "()J"⟩
abbrev cX9_mixRequests : ByteArray := prog_1_method_25_code
def yX9_mixRequests : MethodName := ⟨RX9, "mixRequests", "(J)J"⟩
abbrev cX9_mixLog : ByteArray := prog_1_method_26_code
def yX9_mixLog : MethodName := ⟨RX9, "mixLog", "(J)J"⟩
abbrev cX9_mixForecasts : ByteArray := prog_1_method_27_code
def yX9_mixForecasts : MethodName := ⟨RX9, "mixForecasts", "(J)J"⟩
abbrev cX9_plateFits : ByteArray := prog_1_method_28_code
def yX9_plateFits : MethodName := ⟨RX9, "plateFits", "(II)Z"⟩
abbrev cX9_requestFits : ByteArray := prog_1_method_29_code
def yX9_requestFits : MethodName := ⟨RX9, "requestFits", "(III)Z"⟩
abbrev cX9_settingFits : ByteArray := prog_1_method_30_code
def yX9_settingFits : MethodName := ⟨RX9, "settingFits", "(II)Z"⟩
abbrev cX9_ticksFit : ByteArray := prog_1_method_31_code
def yX9_ticksFit : MethodName := ⟨RX9, "ticksFit", "(I)Z"⟩
abbrev cX9_timeIsLeft : ByteArray := prog_1_method_32_code
def yX9_timeIsLeft : MethodName := ⟨RX9, "timeIsLeft", "(I)Z"⟩
abbrev cX9_isWay : ByteArray := prog_1_method_33_code
def yX9_isWay : MethodName := ⟨RX9, "isWay", "(I)Z"⟩
abbrev cX9_requestValue : ByteArray := prog_1_method_34_code
def yX9_requestValue : MethodName := ⟨RX9, "requestValue", "(II)I"⟩
abbrev cX9_forecastAll : ByteArray := prog_1_method_35_code
def yX9_forecastAll : MethodName := ⟨RX9, "forecastAll", "()V"⟩
abbrev cX9_forecast : ByteArray := prog_1_method_36_code
def yX9_forecast : MethodName := ⟨RX9, "forecast", "(I)V"⟩
abbrev cX9_bestForecast : ByteArray := prog_1_method_37_code
def yX9_bestForecast : MethodName := ⟨RX9, "bestForecast", "()I"⟩
abbrev cX9_save : ByteArray := prog_1_method_38_code
def yX9_save : MethodName := ⟨RX9, "save", "()V"⟩
abbrev cX9_dropOldest : ByteArray := prog_1_method_39_code
def yX9_dropOldest : MethodName := ⟨RX9, "dropOldest", "()V"⟩
abbrev cX9_carryOut : ByteArray := prog_1_method_40_code
def yX9_carryOut : MethodName := ⟨RX9, "carryOut", "(LPlateArm$Word;[I)Z"⟩
abbrev cX9_carryOutPlate : ByteArray := prog_1_method_41_code
def yX9_carryOutPlate : MethodName := ⟨RX9, "carryOutPlate", "(II)Z"⟩
abbrev cX9_carryOutRead : ByteArray := prog_1_method_42_code
def yX9_carryOutRead : MethodName := ⟨RX9, "carryOutRead", "(III)Z"⟩
abbrev cX9_carryOutCancel : ByteArray := prog_1_method_43_code
def yX9_carryOutCancel : MethodName := ⟨RX9, "carryOutCancel", "(I)Z"⟩
abbrev cX9_carryOutSet : ByteArray := prog_1_method_44_code
def yX9_carryOutSet : MethodName := ⟨RX9, "carryOutSet", "(II)Z"⟩
abbrev cX9_carryOutTicks : ByteArray := prog_1_method_45_code
def yX9_carryOutTicks : MethodName := ⟨RX9, "carryOutTicks", "(I)Z"⟩
def RX10 : String := "PlateArmModel"
def TX10 : u_T := fun k => match k with
  | 0 => ("PlateArmModel", "s", "[I", true)
  | 1 => ("PlateArmModel", "past", "[I", true)
  | 2 => ("PlateArmModel", "held", "[I", true)
  | 3 => ("PlateArmModel", "pasts", "I", false)
  | 4 => ("PlateArmModel", "runs", "Z", false)
  | 5 => ("PlateArmModel", "text", "[I", true)
  | 6 => ("PlateArmModel", "typed", "I", false)
  | 7 => ("PlateArmModel", "refused", "I", false)
  | 8 => ("PlateArmModel", "watched", "I", false)
  | 9 => ("PlateArmModel", "readAt", "I", false)
  | 10 => ("PlateArmModel", "spot", "I", false)
  | 11 => ("PlateArmModel", "command", "I", false)
  | 12 => ("PlateArmModel", "given", "[I", true)
  | _ => ("PlateArmModel", "hash", "J", false)
def tyX10 : Nat → FieldType := fun k => match k with
  | 0 => .array .int
  | 1 => .array .int
  | 2 => .array .int
  | 3 => .int
  | 4 => .boolean
  | 5 => .array .int
  | 6 => .int
  | 7 => .int
  | 8 => .int
  | 9 => .int
  | 10 => .int
  | 11 => .int
  | 12 => .array .int
  | _ => .long
abbrev wsX100 : List Cond := u_ws RX10 TX10 14
theorem nmX10 : ∀ a, a < 14 → ∀ b, b < 14 → a ≠ b → (TX10 a).2.1 ≠ (TX10 b).2.1 := by decide +kernel
theorem tyX10_ok : ∀ k, k < 14 → parseFieldDescriptor (TX10 k).2.2.1 = some (tyX10 k) := by decide +kernel
abbrev cX10_init : ByteArray := prog_12_method_1_code
def yX10_init : MethodName := ⟨RX10, "<init>", "()V"⟩
abbrev cX10_thrown : ByteArray := prog_12_method_2_code
def yX10_thrown : MethodName := ⟨RX10, "thrown", "()I"⟩
abbrev cX10_in : ByteArray := prog_12_method_3_code
def yX10_in : MethodName := ⟨RX10, "in", "(III)Z"⟩
abbrev cX10_throwsAt : ByteArray := prog_12_method_4_code
def yX10_throwsAt : MethodName := ⟨RX10, "throwsAt", "(I)Z"⟩
abbrev cX10_saves : ByteArray := prog_12_method_5_code
def yX10_saves : MethodName := ⟨RX10, "saves", "()V"⟩
abbrev cX10_holds : ByteArray := prog_12_method_6_code
def yX10_holds : MethodName := ⟨RX10, "holds", "()V"⟩
abbrev cX10_lets : ByteArray := prog_12_method_7_code
def yX10_lets : MethodName := ⟨RX10, "lets", "()V"⟩
abbrev cX10_of : ByteArray := prog_12_method_8_code
def yX10_of : MethodName := ⟨RX10, "of", "(II)I"⟩
abbrev cX10_placeOf : ByteArray := prog_12_method_9_code
def yX10_placeOf : MethodName := ⟨RX10, "placeOf", "(I)I"⟩
abbrev cX10_takes : ByteArray := prog_12_method_10_code
def yX10_takes : MethodName := ⟨RX10, "takes", "(I)V"⟩
abbrev cX10_size : ByteArray := prog_12_method_11_code
def yX10_size : MethodName := ⟨RX10, "size", "(I)I"⟩
abbrev cX10_far : ByteArray := prog_12_method_12_code
def yX10_far : MethodName := ⟨RX10, "far", "(I)I"⟩
abbrev cX10_isAhead : ByteArray := prog_12_method_13_code
def yX10_isAhead : MethodName := ⟨RX10, "isAhead", "(II)Z"⟩
abbrev cX10_nearest : ByteArray := prog_12_method_14_code
def yX10_nearest : MethodName := ⟨RX10, "nearest", "(I)I"⟩
abbrev cX10_earliest : ByteArray := prog_12_method_15_code
def yX10_earliest : MethodName := ⟨RX10, "earliest", "()I"⟩
abbrev cX10_sweeping : ByteArray := prog_12_method_16_code
def yX10_sweeping : MethodName := ⟨RX10, "sweeping", "()I"⟩
abbrev cX10_targetBy : ByteArray := prog_12_method_17_code
def yX10_targetBy : MethodName := ⟨RX10, "targetBy", "(I)I"⟩
abbrev cX10_steps : ByteArray := prog_12_method_18_code
def yX10_steps : MethodName := ⟨RX10, "steps", "(II)V"⟩
abbrev cX10_moves : ByteArray := prog_12_method_19_code
def yX10_moves : MethodName := ⟨RX10, "moves", "(I)V"⟩
abbrev cX10_logs : ByteArray := prog_12_method_20_code
def yX10_logs : MethodName := ⟨RX10, "logs", "(I)V"⟩
abbrev cX10_reads : ByteArray := prog_12_method_21_code
def yX10_reads : MethodName := ⟨RX10, "reads", "()V"⟩
abbrev cX10_givesUp : ByteArray := prog_12_method_22_code
def yX10_givesUp : MethodName := ⟨RX10, "givesUp", "()V"⟩
abbrev cX10_ticks : ByteArray := prog_12_method_23_code
def yX10_ticks : MethodName := ⟨RX10, "ticks", "()V"⟩
abbrev cX10_plate : ByteArray := prog_12_method_24_code
def yX10_plate : MethodName := ⟨RX10, "plate", "(II)I"⟩
abbrev cX10_request : ByteArray := prog_12_method_25_code
def yX10_request : MethodName := ⟨RX10, "request", "(III)I"⟩
abbrev cX10_cancel : ByteArray := prog_12_method_26_code
def yX10_cancel : MethodName := ⟨RX10, "cancel", "(I)I"⟩
abbrev cX10_set : ByteArray := prog_12_method_27_code
def yX10_set : MethodName := ⟨RX10, "set", "(II)I"⟩
abbrev cX10_pass : ByteArray := prog_12_method_28_code
def yX10_pass : MethodName := ⟨RX10, "pass", "(I)I"⟩
abbrev cX10_finishes : ByteArray := prog_12_method_29_code
def yX10_finishes : MethodName := ⟨RX10, "finishes", "()I"⟩
abbrev cX10_finish : ByteArray := prog_12_method_30_code
def yX10_finish : MethodName := ⟨RX10, "finish", "()I"⟩
abbrev cX10_told : ByteArray := prog_12_method_31_code
def yX10_told : MethodName := ⟨RX10, "told", "(II)I"⟩
abbrev cX10_requestOf : ByteArray := prog_12_method_32_code
def yX10_requestOf : MethodName := ⟨RX10, "requestOf", "(II)I"⟩
abbrev cX10_requestAt : ByteArray := prog_12_method_33_code
def yX10_requestAt : MethodName := ⟨RX10, "requestAt", "(I)I"⟩
abbrev cX10_logOf : ByteArray := prog_12_method_34_code
def yX10_logOf : MethodName := ⟨RX10, "logOf", "(II)I"⟩
abbrev cX10_logged : ByteArray := prog_12_method_35_code
def yX10_logged : MethodName := ⟨RX10, "logged", "(II)I"⟩
abbrev cX10_armOf : ByteArray := prog_12_method_36_code
def yX10_armOf : MethodName := ⟨RX10, "armOf", "(I)I"⟩
abbrev cX10_arm : ByteArray := prog_12_method_37_code
def yX10_arm : MethodName := ⟨RX10, "arm", "(I)I"⟩
abbrev cX10_wholeOf : ByteArray := prog_12_method_38_code
def yX10_wholeOf : MethodName := ⟨RX10, "wholeOf", "(I)I"⟩
abbrev cX10_whole : ByteArray := prog_12_method_39_code
def yX10_whole : MethodName := ⟨RX10, "whole", "(I)I"⟩
abbrev cX10_numberOf : ByteArray := prog_12_method_40_code
def yX10_numberOf : MethodName := ⟨RX10, "numberOf", "(I)I"⟩
abbrev cX10_target : ByteArray := prog_12_method_41_code
def yX10_target : MethodName := ⟨RX10, "target", "(I)I"⟩
abbrev cX10_readIn : ByteArray := prog_12_method_42_code
def yX10_readIn : MethodName := ⟨RX10, "readIn", "(I)I"⟩
abbrev cX10_valueBy : ByteArray := prog_12_method_43_code
def yX10_valueBy : MethodName := ⟨RX10, "valueBy", "(II)I"⟩
abbrev cX10_finishBy : ByteArray := prog_12_method_44_code
def yX10_finishBy : MethodName := ⟨RX10, "finishBy", "(II)I"⟩
abbrev cX10_best : ByteArray := prog_12_method_45_code
def yX10_best : MethodName := ⟨RX10, "best", "()I"⟩
abbrev cX10_bestWay : ByteArray := prog_12_method_46_code
def yX10_bestWay : MethodName := ⟨RX10, "bestWay", "()I"⟩
abbrev cX10_heatBehind : ByteArray := prog_12_method_47_code
def yX10_heatBehind : MethodName := ⟨RX10, "heatBehind", "(I)I"⟩
abbrev cX10_heatIn : ByteArray := prog_12_method_48_code
def yX10_heatIn : MethodName := ⟨RX10, "heatIn", "(I)I"⟩
abbrev cX10_widestNow : ByteArray := prog_12_method_49_code
def yX10_widestNow : MethodName := ⟨RX10, "widestNow", "()I"⟩
abbrev cX10_widest : ByteArray := prog_12_method_50_code
def yX10_widest : MethodName := ⟨RX10, "widest", "()I"⟩
abbrev cX10_reason : ByteArray := prog_12_method_51_code
def yX10_reason : MethodName := ⟨RX10, "reason", "(I)I"⟩
abbrev cX10_type : ByteArray := prog_12_method_52_code
def yX10_type : MethodName := ⟨RX10, "type", "(I)I"⟩
abbrev cX10_clearCommands : ByteArray := prog_12_method_53_code
def yX10_clearCommands : MethodName := ⟨RX10, "clearCommands", "()I"⟩
abbrev cX10_isAt : ByteArray := prog_12_method_54_code
def yX10_isAt : MethodName := ⟨RX10, "isAt", "(II)Z"⟩
abbrev cX10_skips : ByteArray := prog_12_method_55_code
def yX10_skips : MethodName := ⟨RX10, "skips", "()V"⟩
abbrev cX10_isWord : ByteArray := prog_12_method_56_code
def yX10_isWord : MethodName := ⟨RX10, "isWord", "(IIIIIII)Z"⟩
abbrev cX10_commandAt : ByteArray := prog_12_method_57_code
def yX10_commandAt : MethodName := ⟨RX10, "commandAt", "(I)I"⟩
abbrev cX10_number : ByteArray := prog_12_method_58_code
def yX10_number : MethodName := ⟨RX10, "number", "(I)Z"⟩
abbrev cX10_readsOne : ByteArray := prog_12_method_59_code
def yX10_readsOne : MethodName := ⟨RX10, "readsOne", "()Z"⟩
abbrev cX10_fault : ByteArray := prog_12_method_60_code
def yX10_fault : MethodName := ⟨RX10, "fault", "()I"⟩
abbrev cX10_does : ByteArray := prog_12_method_61_code
def yX10_does : MethodName := ⟨RX10, "does", "()V"⟩
abbrev cX10_runCommands : ByteArray := prog_12_method_62_code
def yX10_runCommands : MethodName := ⟨RX10, "runCommands", "()I"⟩
abbrev cX10_undo : ByteArray := prog_12_method_63_code
def yX10_undo : MethodName := ⟨RX10, "undo", "()I"⟩
abbrev cX10_say : ByteArray := prog_12_method_64_code
def yX10_say : MethodName := ⟨RX10, "say", "(I)V"⟩
abbrev cX10_digest : ByteArray := prog_12_method_65_code
def yX10_digest : MethodName := ⟨RX10, "digest", "()J"⟩
def RJx29ce0 : String := "java/lang/Enum"
def TJx29ce0 : u_T := fun k => match k with
  | _ => ("", "", "", false)
def tyJx29ce0 : Nat → FieldType := fun k => match k with
  | _ => .int
abbrev wsJx29ce00 : List Cond := u_ws RJx29ce0 TJx29ce0 0
theorem nmJx29ce0 : ∀ a, a < 0 → ∀ b, b < 0 → a ≠ b → (TJx29ce0 a).2.1 ≠ (TJx29ce0 b).2.1 := by decide +kernel
theorem tyJx29ce0_ok : ∀ k, k < 0 → parseFieldDescriptor (TJx29ce0 k).2.2.1 = some (tyJx29ce0 k) := by decide +kernel
abbrev cJx29ce0_ordinal_8abf5 : ByteArray := prog_13_method_2_code
def yJx29ce0_ordinal_8abf5 : MethodName := ⟨RJx29ce0, "ordinal", "()I"⟩
def RJ6 : String := "java/lang/Integer"
def TJ6 : u_T := fun k => match k with
  | _ => ("", "", "", false)
def tyJ6 : Nat → FieldType := fun k => match k with
  | _ => .int
abbrev wsJ60 : List Cond := u_ws RJ6 TJ6 0
theorem nmJ6 : ∀ a, a < 0 → ∀ b, b < 0 → a ≠ b → (TJ6 a).2.1 ≠ (TJ6 b).2.1 := by decide +kernel
theorem tyJ6_ok : ∀ k, k < 0 → parseFieldDescriptor (TJ6 k).2.2.1 = some (tyJ6 k) := by decide +kernel
abbrev cJ6_compare_7cf53 : ByteArray := prog_18_method_40_code
def yJ6_compare_7cf53 : MethodName := ⟨RJ6, "compare", "(II)I"⟩
def RJ9 : String := "java/lang/Math"
def TJ9 : u_T := fun k => match k with
  | _ => ("", "", "", false)
def tyJ9 : Nat → FieldType := fun k => match k with
  | _ => .int
abbrev wsJ90 : List Cond := u_ws RJ9 TJ9 0
theorem nmJ9 : ∀ a, a < 0 → ∀ b, b < 0 → a ≠ b → (TJ9 a).2.1 ≠ (TJ9 b).2.1 := by decide +kernel
theorem tyJ9_ok : ∀ k, k < 0 → parseFieldDescriptor (TJ9 k).2.2.1 = some (tyJ9 k) := by decide +kernel
abbrev cJ9_abs_0f7a4 : ByteArray := prog_19_method_59_code
def yJ9_abs_0f7a4 : MethodName := ⟨RJ9, "abs", "(I)I"⟩
abbrev cJ9_max_7cf53 : ByteArray := prog_19_method_65_code
def yJ9_max_7cf53 : MethodName := ⟨RJ9, "max", "(II)I"⟩
abbrev cJ9_min_7cf53 : ByteArray := prog_19_method_69_code
def yJ9_min_7cf53 : MethodName := ⟨RJ9, "min", "(II)I"⟩
def RJ0 : String := "java/lang/String"
def TJ0 : u_T := fun k => match k with
  | _ => ("", "", "", false)
def tyJ0 : Nat → FieldType := fun k => match k with
  | _ => .int
abbrev wsJ00 : List Cond := u_ws RJ0 TJ0 0
theorem nmJ0 : ∀ a, a < 0 → ∀ b, b < 0 → a ≠ b → (TJ0 a).2.1 ≠ (TJ0 b).2.1 := by decide +kernel
theorem tyJ0_ok : ∀ k, k < 0 → parseFieldDescriptor (TJ0 k).2.2.1 = some (tyJ0 k) := by decide +kernel
abbrev cJ0_length_8abf5 : ByteArray := prog_21_method_54_code
def yJ0_length_8abf5 : MethodName := ⟨RJ0, "length", "()I"⟩
abbrev cJ0_charAt_5068e : ByteArray := prog_21_method_56_code
def yJ0_charAt_5068e : MethodName := ⟨RJ0, "charAt", "(I)C"⟩
abbrev cJ0_coder_7d493 : ByteArray := prog_21_method_152_code
def yJ0_coder_7d493 : MethodName := ⟨RJ0, "coder", "()B"⟩
abbrev cJ0_isLatin1_aae02 : ByteArray := prog_21_method_154_code
def yJ0_isLatin1_aae02 : MethodName := ⟨RJ0, "isLatin1", "()Z"⟩
abbrev cJ0_checkIndex_df160 : ByteArray := prog_21_method_155_code
def yJ0_checkIndex_df160 : MethodName := ⟨RJ0, "checkIndex", "(II)V"⟩
def RJ1 : String := "java/lang/StringLatin1"
def TJ1 : u_T := fun k => match k with
  | _ => ("", "", "", false)
def tyJ1 : Nat → FieldType := fun k => match k with
  | _ => .int
abbrev wsJ10 : List Cond := u_ws RJ1 TJ1 0
theorem nmJ1 : ∀ a, a < 0 → ∀ b, b < 0 → a ≠ b → (TJ1 a).2.1 ≠ (TJ1 b).2.1 := by decide +kernel
theorem tyJ1_ok : ∀ k, k < 0 → parseFieldDescriptor (TJ1 k).2.2.1 = some (tyJ1 k) := by decide +kernel
abbrev cJ1_charAt_3b067 : ByteArray := prog_22_method_2_code
def yJ1_charAt_3b067 : MethodName := ⟨RJ1, "charAt", "([BI)C"⟩
def RJ2 : String := "java/lang/StringUTF16"
def TJ2 : u_T := fun k => match k with
  | _ => ("", "", "", false)
def tyJ2 : Nat → FieldType := fun k => match k with
  | _ => .int
abbrev wsJ20 : List Cond := u_ws RJ2 TJ2 0
theorem nmJ2 : ∀ a, a < 0 → ∀ b, b < 0 → a ≠ b → (TJ2 a).2.1 ≠ (TJ2 b).2.1 := by decide +kernel
theorem tyJ2_ok : ∀ k, k < 0 → parseFieldDescriptor (TJ2 k).2.2.1 = some (tyJ2 k) := by decide +kernel
abbrev cJ2_getChar_3b067 : ByteArray := prog_23_method_5_code
def yJ2_getChar_3b067 : MethodName := ⟨RJ2, "getChar", "([BI)C"⟩
abbrev cJ2_length_9d52b : ByteArray := prog_23_method_6_code
def yJ2_length_9d52b : MethodName := ⟨RJ2, "length", "([B)I"⟩
abbrev cJ2_charAt_3b067 : ByteArray := prog_23_method_83_code
def yJ2_charAt_3b067 : MethodName := ⟨RJ2, "charAt", "([BI)C"⟩
abbrev cJ2_checkIndex_2214a : ByteArray := prog_23_method_91_code
def yJ2_checkIndex_2214a : MethodName := ⟨RJ2, "checkIndex", "(I[B)V"⟩
def RJ10 : String := "java/lang/System"
def TJ10 : u_T := fun k => match k with
  | _ => ("", "", "", false)
def tyJ10 : Nat → FieldType := fun k => match k with
  | _ => .int
abbrev wsJ100 : List Cond := u_ws RJ10 TJ10 0
theorem nmJ10 : ∀ a, a < 0 → ∀ b, b < 0 → a ≠ b → (TJ10 a).2.1 ≠ (TJ10 b).2.1 := by decide +kernel
theorem tyJ10_ok : ∀ k, k < 0 → parseFieldDescriptor (TJ10 k).2.2.1 = some (tyJ10 k) := by decide +kernel
def RJ3 : String := "jdk/internal/util/Preconditions"
def TJ3 : u_T := fun k => match k with
  | _ => ("", "", "", false)
def tyJ3 : Nat → FieldType := fun k => match k with
  | _ => .int
abbrev wsJ30 : List Cond := u_ws RJ3 TJ3 0
theorem nmJ3 : ∀ a, a < 0 → ∀ b, b < 0 → a ≠ b → (TJ3 a).2.1 ≠ (TJ3 b).2.1 := by decide +kernel
theorem tyJ3_ok : ∀ k, k < 0 → parseFieldDescriptor (TJ3 k).2.2.1 = some (tyJ3 k) := by decide +kernel
abbrev cJ3_checkIndex_8e157 : ByteArray := prog_26_method_11_code
def yJ3_checkIndex_8e157 : MethodName := ⟨RJ3, "checkIndex", "(IILjava/util/function/BiFunction;)I"⟩
def RL : String := "PlateArmLaw"
abbrev cL_plate : ByteArray := method_3_code
def yL_plate : MethodName := ⟨RL, "plate", "(LPlateArm;II[J)I"⟩
abbrev cL_request : ByteArray := method_4_code
def yL_request : MethodName := ⟨RL, "request", "(LPlateArm;III[J)I"⟩
abbrev cL_cancel : ByteArray := method_5_code
def yL_cancel : MethodName := ⟨RL, "cancel", "(LPlateArm;I[J)I"⟩
abbrev cL_set : ByteArray := method_6_code
def yL_set : MethodName := ⟨RL, "set", "(LPlateArm;II[J)I"⟩
abbrev cL_pass : ByteArray := method_7_code
def yL_pass : MethodName := ⟨RL, "pass", "(LPlateArm;I[J)I"⟩
abbrev cL_finish : ByteArray := method_8_code
def yL_finish : MethodName := ⟨RL, "finish", "(LPlateArm;[J)I"⟩
abbrev cL_requestOf : ByteArray := method_9_code
def yL_requestOf : MethodName := ⟨RL, "requestOf", "(LPlateArm;II[J)I"⟩
abbrev cL_requestAt : ByteArray := method_10_code
def yL_requestAt : MethodName := ⟨RL, "requestAt", "(LPlateArm;I[J)I"⟩
abbrev cL_logged : ByteArray := method_11_code
def yL_logged : MethodName := ⟨RL, "logged", "(LPlateArm;II[J)I"⟩
abbrev cL_arm : ByteArray := method_12_code
def yL_arm : MethodName := ⟨RL, "arm", "(LPlateArm;I[J)I"⟩
abbrev cL_whole : ByteArray := method_13_code
def yL_whole : MethodName := ⟨RL, "whole", "(LPlateArm;I[J)I"⟩
abbrev cL_target : ByteArray := method_14_code
def yL_target : MethodName := ⟨RL, "target", "(LPlateArm;I[J)I"⟩
abbrev cL_readIn : ByteArray := method_15_code
def yL_readIn : MethodName := ⟨RL, "readIn", "(LPlateArm;I[J)I"⟩
abbrev cL_finishBy : ByteArray := method_16_code
def yL_finishBy : MethodName := ⟨RL, "finishBy", "(LPlateArm;II[J)I"⟩
abbrev cL_heatIn : ByteArray := method_17_code
def yL_heatIn : MethodName := ⟨RL, "heatIn", "(LPlateArm;I[J)I"⟩
abbrev cL_reason : ByteArray := method_18_code
def yL_reason : MethodName := ⟨RL, "reason", "(LPlateArm;I[J)I"⟩
abbrev cL_type : ByteArray := method_19_code
def yL_type : MethodName := ⟨RL, "type", "(LPlateArm;I[J)I"⟩
abbrev cL_undo : ByteArray := method_20_code
def yL_undo : MethodName := ⟨RL, "undo", "(LPlateArm;[J)I"⟩
abbrev cL_law : ByteArray := code
def yL_law : MethodName := ⟨RL, "law", "([I)Z"⟩
abbrev vwCl : List vw_C := [(RX1, TX1, 5), (RX2, TX2, 6), (RX3, TX3, 2), (RX4, TX4, 2), (RX5, TX5, 7), (RX6, TX6, 8), (RX7, TX7, 7), (RX9, TX9, 7), (RX10, TX10, 14)]
end
section
/-! the words by their places -/
def WG : List Cond := lw_tbl.filter goodWord
theorem wg {w : Cond} (i : Nat) (h : lw_tbl[i]? = some w) (g : goodWord w = true) : w ∈ WG := List.mem_filter.mpr ⟨List.mem_of_getElem? h, g⟩
theorem qw_0 : Cond.selects "PlateArm" ⟨"PlateArm", "forecastAll", "()V"⟩ ⟨"PlateArm", "forecastAll", "()V"⟩ ∈ WG := wg 0 (by decide +kernel) (by decide +kernel)
theorem qw_1 : Cond.selects "PlateArm" ⟨"PlateArm", "forecast", "(I)V"⟩ ⟨"PlateArm", "forecast", "(I)V"⟩ ∈ WG := wg 1 (by decide +kernel) (by decide +kernel)
theorem qw_2 : Cond.selects "PlateArm$State" ⟨"PlateArm$State", "beginTick", "()V"⟩ ⟨"PlateArm$State", "beginTick", "()V"⟩ ∈ WG := wg 2 (by decide +kernel) (by decide +kernel)
theorem qw_3 : Cond.selects "PlateArm$State" ⟨"PlateArm$State", "lowest", "(II)I"⟩ ⟨"PlateArm$State", "lowest", "(II)I"⟩ ∈ WG := wg 3 (by decide +kernel) (by decide +kernel)
theorem qw_4 : Cond.selects "PlateArm$State" ⟨"PlateArm$State", "rankOf", "(III)I"⟩ ⟨"PlateArm$State", "rankOf", "(III)I"⟩ ∈ WG := wg 4 (by decide +kernel) (by decide +kernel)
theorem qw_5 : Cond.selects "PlateArm$State" ⟨"PlateArm$State", "moveOn", "(I)V"⟩ ⟨"PlateArm$State", "moveOn", "(I)V"⟩ ∈ WG := wg 5 (by decide +kernel) (by decide +kernel)
theorem qw_6 : Cond.selects "PlateArm$State" ⟨"PlateArm$State", "start", "(I)V"⟩ ⟨"PlateArm$State", "start", "(I)V"⟩ ∈ WG := wg 6 (by decide +kernel) (by decide +kernel)
theorem qw_7 : Cond.selects "PlateArm$State" ⟨"PlateArm$State", "readUnderArm", "()V"⟩ ⟨"PlateArm$State", "readUnderArm", "()V"⟩ ∈ WG := wg 7 (by decide +kernel) (by decide +kernel)
theorem qw_8 : Cond.selects "PlateArm$State" ⟨"PlateArm$State", "endTick", "()V"⟩ ⟨"PlateArm$State", "endTick", "()V"⟩ ∈ WG := wg 8 (by decide +kernel) (by decide +kernel)
theorem qw_9 : Cond.selects "PlateArm$State" ⟨"PlateArm$State", "giveUp", "()V"⟩ ⟨"PlateArm$State", "giveUp", "()V"⟩ ∈ WG := wg 9 (by decide +kernel) (by decide +kernel)
theorem qw_10 : Cond.selects "PlateArm" ⟨"PlateArm", "bestForecast", "()I"⟩ ⟨"PlateArm", "bestForecast", "()I"⟩ ∈ WG := wg 10 (by decide +kernel) (by decide +kernel)
theorem qw_11 : Cond.selects "PlateArm$CommandScan" ⟨"PlateArm$CommandScan", "takeInFront", "(II)I"⟩ ⟨"PlateArm$CommandScan", "takeInFront", "(II)I"⟩ ∈ WG := wg 11 (by decide +kernel) (by decide +kernel)
theorem qw_12 : Cond.selects "PlateArm$CommandScan" ⟨"PlateArm$CommandScan", "takeInWord", "(LPlateArm$CommandText;II)I"⟩ ⟨"PlateArm$CommandScan", "takeInWord", "(LPlateArm$CommandText;II)I"⟩ ∈ WG := wg 12 (by decide +kernel) (by decide +kernel)
theorem qw_13 : Cond.selects "PlateArm$CommandScan" ⟨"PlateArm$CommandScan", "takeInGap", "(II)I"⟩ ⟨"PlateArm$CommandScan", "takeInGap", "(II)I"⟩ ∈ WG := wg 13 (by decide +kernel) (by decide +kernel)
theorem qw_14 : Cond.selects "PlateArm$CommandScan" ⟨"PlateArm$CommandScan", "takeBehindNumber", "(II)I"⟩ ⟨"PlateArm$CommandScan", "takeBehindNumber", "(II)I"⟩ ∈ WG := wg 14 (by decide +kernel) (by decide +kernel)
theorem qw_15 : Cond.selects "PlateArm$CommandScan" ⟨"PlateArm$CommandScan", "takeInNumber", "(II)I"⟩ ⟨"PlateArm$CommandScan", "takeInNumber", "(II)I"⟩ ∈ WG := wg 15 (by decide +kernel) (by decide +kernel)
theorem qw_16 : Cond.selects "PlateArm" ⟨"PlateArm", "save", "()V"⟩ ⟨"PlateArm", "save", "()V"⟩ ∈ WG := wg 16 (by decide +kernel) (by decide +kernel)
theorem qw_17 : Cond.selects "PlateArm" ⟨"PlateArm", "dropOldest", "()V"⟩ ⟨"PlateArm", "dropOldest", "()V"⟩ ∈ WG := wg 17 (by decide +kernel) (by decide +kernel)
theorem qw_18 : Cond.selects "PlateArm" ⟨"PlateArm", "carryOut", "(LPlateArm$Word;[I)Z"⟩ ⟨"PlateArm", "carryOut", "(LPlateArm$Word;[I)Z"⟩ ∈ WG := wg 18 (by decide +kernel) (by decide +kernel)
theorem qw_19 : Cond.selects "PlateArm" ⟨"PlateArm", "carryOutPlate", "(II)Z"⟩ ⟨"PlateArm", "carryOutPlate", "(II)Z"⟩ ∈ WG := wg 19 (by decide +kernel) (by decide +kernel)
theorem qw_20 : Cond.selects "PlateArm" ⟨"PlateArm", "carryOutRead", "(III)Z"⟩ ⟨"PlateArm", "carryOutRead", "(III)Z"⟩ ∈ WG := wg 20 (by decide +kernel) (by decide +kernel)
theorem qw_21 : Cond.selects "PlateArm" ⟨"PlateArm", "requestFits", "(III)Z"⟩ ⟨"PlateArm", "requestFits", "(III)Z"⟩ ∈ WG := wg 21 (by decide +kernel) (by decide +kernel)
theorem qw_22 : Cond.selects "PlateArm" ⟨"PlateArm", "carryOutCancel", "(I)Z"⟩ ⟨"PlateArm", "carryOutCancel", "(I)Z"⟩ ∈ WG := wg 22 (by decide +kernel) (by decide +kernel)
theorem qw_23 : Cond.selects "PlateArm" ⟨"PlateArm", "carryOutSet", "(II)Z"⟩ ⟨"PlateArm", "carryOutSet", "(II)Z"⟩ ∈ WG := wg 23 (by decide +kernel) (by decide +kernel)
theorem qw_24 : Cond.selects "PlateArm" ⟨"PlateArm", "carryOutTicks", "(I)Z"⟩ ⟨"PlateArm", "carryOutTicks", "(I)Z"⟩ ∈ WG := wg 24 (by decide +kernel) (by decide +kernel)
theorem qw_25 : Cond.selects "PlateArm" ⟨"PlateArm", "timeIsLeft", "(I)Z"⟩ ⟨"PlateArm", "timeIsLeft", "(I)Z"⟩ ∈ WG := wg 25 (by decide +kernel) (by decide +kernel)
theorem qw_27 : Cond.selects "PlateArm" ⟨"PlateArm", "mixRequests", "(J)J"⟩ ⟨"PlateArm", "mixRequests", "(J)J"⟩ ∈ WG := wg 27 (by decide +kernel) (by decide +kernel)
theorem qw_28 : Cond.selects "PlateArm" ⟨"PlateArm", "requestValue", "(II)I"⟩ ⟨"PlateArm", "requestValue", "(II)I"⟩ ∈ WG := wg 28 (by decide +kernel) (by decide +kernel)
theorem qw_29 : Cond.selects "PlateArm" ⟨"PlateArm", "mixLog", "(J)J"⟩ ⟨"PlateArm", "mixLog", "(J)J"⟩ ∈ WG := wg 29 (by decide +kernel) (by decide +kernel)
theorem qw_30 : Cond.selects "PlateArm" ⟨"PlateArm", "mixForecasts", "(J)J"⟩ ⟨"PlateArm", "mixForecasts", "(J)J"⟩ ∈ WG := wg 30 (by decide +kernel) (by decide +kernel)
theorem qw_31 : Cond.selects "PlateArmModel" ⟨"PlateArmModel", "throwsAt", "(I)Z"⟩ ⟨"PlateArmModel", "throwsAt", "(I)Z"⟩ ∈ WG := wg 31 (by decide +kernel) (by decide +kernel)
theorem qw_32 : Cond.selects "PlateArmModel" ⟨"PlateArmModel", "saves", "()V"⟩ ⟨"PlateArmModel", "saves", "()V"⟩ ∈ WG := wg 32 (by decide +kernel) (by decide +kernel)
theorem qw_33 : Cond.selects "PlateArmModel" ⟨"PlateArmModel", "placeOf", "(I)I"⟩ ⟨"PlateArmModel", "placeOf", "(I)I"⟩ ∈ WG := wg 33 (by decide +kernel) (by decide +kernel)
theorem qw_34 : Cond.selects "PlateArmModel" ⟨"PlateArmModel", "of", "(II)I"⟩ ⟨"PlateArmModel", "of", "(II)I"⟩ ∈ WG := wg 34 (by decide +kernel) (by decide +kernel)
theorem qw_35 : Cond.selects "PlateArmModel" ⟨"PlateArmModel", "takes", "(I)V"⟩ ⟨"PlateArmModel", "takes", "(I)V"⟩ ∈ WG := wg 35 (by decide +kernel) (by decide +kernel)
theorem qw_36 : Cond.selects "PlateArmModel" ⟨"PlateArmModel", "ticks", "()V"⟩ ⟨"PlateArmModel", "ticks", "()V"⟩ ∈ WG := wg 36 (by decide +kernel) (by decide +kernel)
theorem qw_37 : Cond.selects "PlateArmModel" ⟨"PlateArmModel", "targetBy", "(I)I"⟩ ⟨"PlateArmModel", "targetBy", "(I)I"⟩ ∈ WG := wg 37 (by decide +kernel) (by decide +kernel)
theorem qw_38 : Cond.selects "PlateArmModel" ⟨"PlateArmModel", "sweeping", "()I"⟩ ⟨"PlateArmModel", "sweeping", "()I"⟩ ∈ WG := wg 38 (by decide +kernel) (by decide +kernel)
theorem qw_39 : Cond.selects "PlateArmModel" ⟨"PlateArmModel", "nearest", "(I)I"⟩ ⟨"PlateArmModel", "nearest", "(I)I"⟩ ∈ WG := wg 39 (by decide +kernel) (by decide +kernel)
theorem qw_40 : Cond.selects "PlateArmModel" ⟨"PlateArmModel", "isAhead", "(II)Z"⟩ ⟨"PlateArmModel", "isAhead", "(II)Z"⟩ ∈ WG := wg 40 (by decide +kernel) (by decide +kernel)
theorem qw_41 : Cond.selects "PlateArmModel" ⟨"PlateArmModel", "far", "(I)I"⟩ ⟨"PlateArmModel", "far", "(I)I"⟩ ∈ WG := wg 41 (by decide +kernel) (by decide +kernel)
theorem qw_42 : Cond.selects "PlateArmModel" ⟨"PlateArmModel", "earliest", "()I"⟩ ⟨"PlateArmModel", "earliest", "()I"⟩ ∈ WG := wg 42 (by decide +kernel) (by decide +kernel)
theorem qw_43 : Cond.selects "PlateArmModel" ⟨"PlateArmModel", "moves", "(I)V"⟩ ⟨"PlateArmModel", "moves", "(I)V"⟩ ∈ WG := wg 43 (by decide +kernel) (by decide +kernel)
theorem qw_44 : Cond.selects "PlateArmModel" ⟨"PlateArmModel", "steps", "(II)V"⟩ ⟨"PlateArmModel", "steps", "(II)V"⟩ ∈ WG := wg 44 (by decide +kernel) (by decide +kernel)
theorem qw_45 : Cond.selects "PlateArmModel" ⟨"PlateArmModel", "reads", "()V"⟩ ⟨"PlateArmModel", "reads", "()V"⟩ ∈ WG := wg 45 (by decide +kernel) (by decide +kernel)
theorem qw_46 : Cond.selects "PlateArmModel" ⟨"PlateArmModel", "logs", "(I)V"⟩ ⟨"PlateArmModel", "logs", "(I)V"⟩ ∈ WG := wg 46 (by decide +kernel) (by decide +kernel)
theorem qw_47 : Cond.selects "PlateArmModel" ⟨"PlateArmModel", "givesUp", "()V"⟩ ⟨"PlateArmModel", "givesUp", "()V"⟩ ∈ WG := wg 47 (by decide +kernel) (by decide +kernel)
theorem qw_48 : Cond.selects "PlateArmModel" ⟨"PlateArmModel", "holds", "()V"⟩ ⟨"PlateArmModel", "holds", "()V"⟩ ∈ WG := wg 48 (by decide +kernel) (by decide +kernel)
theorem qw_49 : Cond.selects "PlateArmModel" ⟨"PlateArmModel", "finishes", "()I"⟩ ⟨"PlateArmModel", "finishes", "()I"⟩ ∈ WG := wg 49 (by decide +kernel) (by decide +kernel)
theorem qw_50 : Cond.selects "PlateArmModel" ⟨"PlateArmModel", "lets", "()V"⟩ ⟨"PlateArmModel", "lets", "()V"⟩ ∈ WG := wg 50 (by decide +kernel) (by decide +kernel)
theorem qw_51 : Cond.selects "PlateArmModel" ⟨"PlateArmModel", "told", "(II)I"⟩ ⟨"PlateArmModel", "told", "(II)I"⟩ ∈ WG := wg 51 (by decide +kernel) (by decide +kernel)
theorem qw_52 : Cond.selects "PlateArmModel" ⟨"PlateArmModel", "logOf", "(II)I"⟩ ⟨"PlateArmModel", "logOf", "(II)I"⟩ ∈ WG := wg 52 (by decide +kernel) (by decide +kernel)
theorem qw_53 : Cond.selects "PlateArmModel" ⟨"PlateArmModel", "armOf", "(I)I"⟩ ⟨"PlateArmModel", "armOf", "(I)I"⟩ ∈ WG := wg 53 (by decide +kernel) (by decide +kernel)
theorem qw_54 : Cond.selects "PlateArmModel" ⟨"PlateArmModel", "wholeOf", "(I)I"⟩ ⟨"PlateArmModel", "wholeOf", "(I)I"⟩ ∈ WG := wg 54 (by decide +kernel) (by decide +kernel)
theorem qw_55 : Cond.selects "PlateArmModel" ⟨"PlateArmModel", "numberOf", "(I)I"⟩ ⟨"PlateArmModel", "numberOf", "(I)I"⟩ ∈ WG := wg 55 (by decide +kernel) (by decide +kernel)
theorem qw_56 : Cond.selects "PlateArmModel" ⟨"PlateArmModel", "valueBy", "(II)I"⟩ ⟨"PlateArmModel", "valueBy", "(II)I"⟩ ∈ WG := wg 56 (by decide +kernel) (by decide +kernel)
theorem qw_57 : Cond.selects "PlateArmModel" ⟨"PlateArmModel", "best", "()I"⟩ ⟨"PlateArmModel", "best", "()I"⟩ ∈ WG := wg 57 (by decide +kernel) (by decide +kernel)
theorem qw_58 : Cond.selects "PlateArmModel" ⟨"PlateArmModel", "heatBehind", "(I)I"⟩ ⟨"PlateArmModel", "heatBehind", "(I)I"⟩ ∈ WG := wg 58 (by decide +kernel) (by decide +kernel)
theorem qw_59 : Cond.selects "PlateArmModel" ⟨"PlateArmModel", "widestNow", "()I"⟩ ⟨"PlateArmModel", "widestNow", "()I"⟩ ∈ WG := wg 59 (by decide +kernel) (by decide +kernel)
theorem qw_60 : Cond.selects "PlateArmModel" ⟨"PlateArmModel", "fault", "()I"⟩ ⟨"PlateArmModel", "fault", "()I"⟩ ∈ WG := wg 60 (by decide +kernel) (by decide +kernel)
theorem qw_61 : Cond.selects "PlateArmModel" ⟨"PlateArmModel", "skips", "()V"⟩ ⟨"PlateArmModel", "skips", "()V"⟩ ∈ WG := wg 61 (by decide +kernel) (by decide +kernel)
theorem qw_62 : Cond.selects "PlateArmModel" ⟨"PlateArmModel", "isAt", "(II)Z"⟩ ⟨"PlateArmModel", "isAt", "(II)Z"⟩ ∈ WG := wg 62 (by decide +kernel) (by decide +kernel)
theorem qw_63 : Cond.selects "PlateArmModel" ⟨"PlateArmModel", "readsOne", "()Z"⟩ ⟨"PlateArmModel", "readsOne", "()Z"⟩ ∈ WG := wg 63 (by decide +kernel) (by decide +kernel)
theorem qw_64 : Cond.selects "PlateArmModel" ⟨"PlateArmModel", "commandAt", "(I)I"⟩ ⟨"PlateArmModel", "commandAt", "(I)I"⟩ ∈ WG := wg 64 (by decide +kernel) (by decide +kernel)
theorem qw_65 : Cond.selects "PlateArmModel" ⟨"PlateArmModel", "isWord", "(IIIIIII)Z"⟩ ⟨"PlateArmModel", "isWord", "(IIIIIII)Z"⟩ ∈ WG := wg 65 (by decide +kernel) (by decide +kernel)
theorem qw_66 : Cond.selects "PlateArmModel" ⟨"PlateArmModel", "number", "(I)Z"⟩ ⟨"PlateArmModel", "number", "(I)Z"⟩ ∈ WG := wg 66 (by decide +kernel) (by decide +kernel)
theorem qw_67 : Cond.selects "PlateArmModel" ⟨"PlateArmModel", "does", "()V"⟩ ⟨"PlateArmModel", "does", "()V"⟩ ∈ WG := wg 67 (by decide +kernel) (by decide +kernel)
theorem qw_68 : Cond.selects "PlateArmModel" ⟨"PlateArmModel", "say", "(I)V"⟩ ⟨"PlateArmModel", "say", "(I)V"⟩ ∈ WG := wg 68 (by decide +kernel) (by decide +kernel)
theorem qw_70 : Cond.initialized "PlateArm" ∈ WG := wg 70 (by decide +kernel) (by decide +kernel)
theorem qw_71 : Cond.initialized "PlateArm$State" ∈ WG := wg 71 (by decide +kernel) (by decide +kernel)
theorem qw_72 : Cond.initialized "PlateArm$Arm" ∈ WG := wg 72 (by decide +kernel) (by decide +kernel)
theorem qw_73 : Cond.initialized "PlateArm$Requests" ∈ WG := wg 73 (by decide +kernel) (by decide +kernel)
theorem qw_74 : Cond.initialized "PlateArm$Log" ∈ WG := wg 74 (by decide +kernel) (by decide +kernel)
theorem qw_75 : Cond.initialized "PlateArm$Tally" ∈ WG := wg 75 (by decide +kernel) (by decide +kernel)
theorem qw_76 : Cond.initialized "PlateArm$CommandText" ∈ WG := wg 76 (by decide +kernel) (by decide +kernel)
theorem qw_77 : Cond.initialized "PlateArm$CommandScan" ∈ WG := wg 77 (by decide +kernel) (by decide +kernel)
theorem qw_80 : Cond.initialized "PlateArmModel" ∈ WG := wg 80 (by decide +kernel) (by decide +kernel)
theorem qw_84 : Cond.initialized "java/lang/IllegalArgumentException" ∈ WG := wg 84 (by decide +kernel) (by decide +kernel)
theorem qw_85 : Cond.initialized "java/lang/System" ∈ WG := wg 85 (by decide +kernel) (by decide +kernel)
theorem qw_86 : Cond.initialized "java/lang/IllegalStateException" ∈ WG := wg 86 (by decide +kernel) (by decide +kernel)
theorem qw_87 : Cond.initialized "java/lang/IndexOutOfBoundsException" ∈ WG := wg 87 (by decide +kernel) (by decide +kernel)
theorem qw_88 : Cond.initialized "java/lang/Math" ∈ WG := wg 88 (by decide +kernel) (by decide +kernel)
theorem qw_89 : Cond.initialized "java/lang/Integer" ∈ WG := wg 89 (by decide +kernel) (by decide +kernel)
theorem qw_100 : Cond.methodLink "PlateArm" (1 : Nat) ({ cls := "java/lang/Object", name := "<init>", desc := "()V" } : MethodName) ∈ WG := wg 100 (by decide +kernel) (by decide +kernel)
theorem qw_101 : Cond.instanceMethod ({ cls := "java/lang/Object", name := "<init>", desc := "()V" } : MethodName) ∈ WG := wg 101 (by decide +kernel) (by decide +kernel)
theorem qw_102 : Cond.code ({ cls := "java/lang/Object", name := "<init>", desc := "()V" } : MethodName) object_method_1_code (1 : Nat) (Option.none : Option Jvm.ClassFile.FieldType) ∈ WG := wg 102 (by decide +kernel) (by decide +kernel)
theorem qw_103 : Cond.classLink "PlateArm" (7 : Nat) "PlateArm$State" ∈ WG := wg 103 (by decide +kernel) (by decide +kernel)
theorem qw_104 : Cond.instantiable "PlateArm$State" (8 : Nat) ∈ WG := wg 104 (by decide +kernel) (by decide +kernel)
theorem qw_106 : Cond.instanceMethod ({ cls := "PlateArm$State", name := "<init>", desc := "()V" } : MethodName) ∈ WG := wg 106 (by decide +kernel) (by decide +kernel)
theorem qw_107 : Cond.code ({ cls := "PlateArm$State", name := "<init>", desc := "()V" } : MethodName) prog_8_method_1_code (1 : Nat) (Option.none : Option Jvm.ClassFile.FieldType) ∈ WG := wg 107 (by decide +kernel) (by decide +kernel)
theorem qw_108 : Cond.methodLink "PlateArm$State" (3 : Nat) ({ cls := "java/lang/Object", name := "<init>", desc := "()V" } : MethodName) ∈ WG := wg 108 (by decide +kernel) (by decide +kernel)
theorem qw_109 : Cond.classLink "PlateArm$State" (22 : Nat) "PlateArm$Arm" ∈ WG := wg 109 (by decide +kernel) (by decide +kernel)
theorem qw_110 : Cond.instantiable "PlateArm$Arm" (5 : Nat) ∈ WG := wg 110 (by decide +kernel) (by decide +kernel)
theorem qw_112 : Cond.instanceMethod ({ cls := "PlateArm$Arm", name := "<init>", desc := "()V" } : MethodName) ∈ WG := wg 112 (by decide +kernel) (by decide +kernel)
theorem qw_113 : Cond.code ({ cls := "PlateArm$Arm", name := "<init>", desc := "()V" } : MethodName) prog_3_method_1_code (1 : Nat) (Option.none : Option Jvm.ClassFile.FieldType) ∈ WG := wg 113 (by decide +kernel) (by decide +kernel)
theorem qw_114 : Cond.methodLink "PlateArm$Arm" (1 : Nat) ({ cls := "java/lang/Object", name := "<init>", desc := "()V" } : MethodName) ∈ WG := wg 114 (by decide +kernel) (by decide +kernel)
theorem qw_115 : Cond.fieldLink "PlateArm$Arm" (16 : Nat) "PlateArm$Arm" "track" "I" ∈ WG := wg 115 (by decide +kernel) (by decide +kernel)
theorem qw_116 : Cond.fieldLink "PlateArm$State" (106 : Nat) "PlateArm$Arm" "track" "I" ∈ WG := wg 116 (by decide +kernel) (by decide +kernel)
theorem qw_117 : Cond.fieldLink "PlateArm" (149 : Nat) "PlateArm$Arm" "track" "I" ∈ WG := wg 117 (by decide +kernel) (by decide +kernel)
theorem qw_118 : Cond.fieldLink "PlateArm$Arm" (9 : Nat) "PlateArm$Arm" "direction" "I" ∈ WG := wg 118 (by decide +kernel) (by decide +kernel)
theorem qw_119 : Cond.fieldLink "PlateArm$State" (101 : Nat) "PlateArm$Arm" "direction" "I" ∈ WG := wg 119 (by decide +kernel) (by decide +kernel)
theorem qw_120 : Cond.fieldLink "PlateArm" (154 : Nat) "PlateArm$Arm" "direction" "I" ∈ WG := wg 120 (by decide +kernel) (by decide +kernel)
theorem qw_121 : Cond.fieldLink "PlateArm$Arm" (19 : Nat) "PlateArm$Arm" "heat" "I" ∈ WG := wg 121 (by decide +kernel) (by decide +kernel)
theorem qw_122 : Cond.fieldLink "PlateArm$State" (144 : Nat) "PlateArm$Arm" "heat" "I" ∈ WG := wg 122 (by decide +kernel) (by decide +kernel)
theorem qw_123 : Cond.fieldLink "PlateArm" (157 : Nat) "PlateArm$Arm" "heat" "I" ∈ WG := wg 123 (by decide +kernel) (by decide +kernel)
theorem qw_124 : Cond.fieldLink "PlateArm$Arm" (22 : Nat) "PlateArm$Arm" "rests" "Z" ∈ WG := wg 124 (by decide +kernel) (by decide +kernel)
theorem qw_125 : Cond.fieldLink "PlateArm$State" (112 : Nat) "PlateArm$Arm" "rests" "Z" ∈ WG := wg 125 (by decide +kernel) (by decide +kernel)
theorem qw_126 : Cond.fieldLink "PlateArm" (160 : Nat) "PlateArm$Arm" "rests" "Z" ∈ WG := wg 126 (by decide +kernel) (by decide +kernel)
theorem qw_127 : Cond.fieldLink "PlateArm$Arm" (13 : Nat) "PlateArm$Arm" "sweep" "I" ∈ WG := wg 127 (by decide +kernel) (by decide +kernel)
theorem qw_128 : Cond.fieldLink "PlateArm$State" (91 : Nat) "PlateArm$Arm" "sweep" "I" ∈ WG := wg 128 (by decide +kernel) (by decide +kernel)
theorem qw_129 : Cond.fieldLink "PlateArm" (164 : Nat) "PlateArm$Arm" "sweep" "I" ∈ WG := wg 129 (by decide +kernel) (by decide +kernel)
theorem qw_141 : Cond.arrayClass FieldType.int ∈ WG := wg 141 (by decide +kernel) (by decide +kernel)
theorem qw_142 : Cond.classLink "PlateArm$State" (29 : Nat) "PlateArm$Requests" ∈ WG := wg 142 (by decide +kernel) (by decide +kernel)
theorem qw_143 : Cond.instantiable "PlateArm$Requests" (7 : Nat) ∈ WG := wg 143 (by decide +kernel) (by decide +kernel)
theorem qw_145 : Cond.instanceMethod ({ cls := "PlateArm$Requests", name := "<init>", desc := "()V" } : MethodName) ∈ WG := wg 145 (by decide +kernel) (by decide +kernel)
theorem qw_146 : Cond.code ({ cls := "PlateArm$Requests", name := "<init>", desc := "()V" } : MethodName) prog_7_method_1_code (1 : Nat) (Option.none : Option Jvm.ClassFile.FieldType) ∈ WG := wg 146 (by decide +kernel) (by decide +kernel)
theorem qw_147 : Cond.methodLink "PlateArm$Requests" (3 : Nat) ({ cls := "java/lang/Object", name := "<init>", desc := "()V" } : MethodName) ∈ WG := wg 147 (by decide +kernel) (by decide +kernel)
theorem qw_148 : Cond.fieldLink "PlateArm$Requests" (27 : Nat) "PlateArm$Requests" "count" "I" ∈ WG := wg 148 (by decide +kernel) (by decide +kernel)
theorem qw_149 : Cond.fieldLink "PlateArm" (56 : Nat) "PlateArm$Requests" "count" "I" ∈ WG := wg 149 (by decide +kernel) (by decide +kernel)
theorem qw_150 : Cond.fieldLink "PlateArm$State" (84 : Nat) "PlateArm$Requests" "count" "I" ∈ WG := wg 150 (by decide +kernel) (by decide +kernel)
theorem qw_151 : Cond.fieldLink "PlateArm$Requests" (31 : Nat) "PlateArm$Requests" "told" "I" ∈ WG := wg 151 (by decide +kernel) (by decide +kernel)
theorem qw_152 : Cond.fieldLink "PlateArm" (176 : Nat) "PlateArm$Requests" "told" "I" ∈ WG := wg 152 (by decide +kernel) (by decide +kernel)
theorem qw_153 : Cond.fieldLink "PlateArm$Requests" (11 : Nat) "PlateArm$Requests" "numbers" "[I" ∈ WG := wg 153 (by decide +kernel) (by decide +kernel)
theorem qw_154 : Cond.fieldLink "PlateArm" (136 : Nat) "PlateArm$Requests" "numbers" "[I" ∈ WG := wg 154 (by decide +kernel) (by decide +kernel)
theorem qw_155 : Cond.fieldLink "PlateArm$State" (162 : Nat) "PlateArm$Requests" "numbers" "[I" ∈ WG := wg 155 (by decide +kernel) (by decide +kernel)
theorem qw_156 : Cond.fieldLink "PlateArm$Requests" (15 : Nat) "PlateArm$Requests" "tracks" "[I" ∈ WG := wg 156 (by decide +kernel) (by decide +kernel)
theorem qw_157 : Cond.fieldLink "PlateArm$State" (104 : Nat) "PlateArm$Requests" "tracks" "[I" ∈ WG := wg 157 (by decide +kernel) (by decide +kernel)
theorem qw_158 : Cond.fieldLink "PlateArm" (297 : Nat) "PlateArm$Requests" "tracks" "[I" ∈ WG := wg 158 (by decide +kernel) (by decide +kernel)
theorem qw_159 : Cond.fieldLink "PlateArm$Requests" (18 : Nat) "PlateArm$Requests" "sectors" "[I" ∈ WG := wg 159 (by decide +kernel) (by decide +kernel)
theorem qw_160 : Cond.fieldLink "PlateArm$State" (116 : Nat) "PlateArm$Requests" "sectors" "[I" ∈ WG := wg 160 (by decide +kernel) (by decide +kernel)
theorem qw_161 : Cond.fieldLink "PlateArm" (299 : Nat) "PlateArm$Requests" "sectors" "[I" ∈ WG := wg 161 (by decide +kernel) (by decide +kernel)
theorem qw_162 : Cond.fieldLink "PlateArm$Requests" (21 : Nat) "PlateArm$Requests" "deadlines" "[I" ∈ WG := wg 162 (by decide +kernel) (by decide +kernel)
theorem qw_163 : Cond.fieldLink "PlateArm$State" (159 : Nat) "PlateArm$Requests" "deadlines" "[I" ∈ WG := wg 163 (by decide +kernel) (by decide +kernel)
theorem qw_164 : Cond.fieldLink "PlateArm" (301 : Nat) "PlateArm$Requests" "deadlines" "[I" ∈ WG := wg 164 (by decide +kernel) (by decide +kernel)
theorem qw_165 : Cond.fieldLink "PlateArm$Requests" (24 : Nat) "PlateArm$Requests" "toldIn" "[I" ∈ WG := wg 165 (by decide +kernel) (by decide +kernel)
theorem qw_166 : Cond.fieldLink "PlateArm" (91 : Nat) "PlateArm$Requests" "toldIn" "[I" ∈ WG := wg 166 (by decide +kernel) (by decide +kernel)
theorem qw_182 : Cond.classLink "PlateArm$State" (36 : Nat) "PlateArm$Log" ∈ WG := wg 182 (by decide +kernel) (by decide +kernel)
theorem qw_183 : Cond.instantiable "PlateArm$Log" (2 : Nat) ∈ WG := wg 183 (by decide +kernel) (by decide +kernel)
theorem qw_185 : Cond.instanceMethod ({ cls := "PlateArm$Log", name := "<init>", desc := "()V" } : MethodName) ∈ WG := wg 185 (by decide +kernel) (by decide +kernel)
theorem qw_186 : Cond.code ({ cls := "PlateArm$Log", name := "<init>", desc := "()V" } : MethodName) prog_6_method_1_code (1 : Nat) (Option.none : Option Jvm.ClassFile.FieldType) ∈ WG := wg 186 (by decide +kernel) (by decide +kernel)
theorem qw_187 : Cond.methodLink "PlateArm$Log" (3 : Nat) ({ cls := "java/lang/Object", name := "<init>", desc := "()V" } : MethodName) ∈ WG := wg 187 (by decide +kernel) (by decide +kernel)
theorem qw_188 : Cond.fieldLink "PlateArm$Log" (15 : Nat) "PlateArm$Log" "written" "I" ∈ WG := wg 188 (by decide +kernel) (by decide +kernel)
theorem qw_189 : Cond.fieldLink "PlateArm" (116 : Nat) "PlateArm$Log" "written" "I" ∈ WG := wg 189 (by decide +kernel) (by decide +kernel)
theorem qw_190 : Cond.fieldLink "PlateArm$Log" (11 : Nat) "PlateArm$Log" "cells" "[I" ∈ WG := wg 190 (by decide +kernel) (by decide +kernel)
theorem qw_196 : Cond.classLink "PlateArm$State" (43 : Nat) "PlateArm$Tally" ∈ WG := wg 196 (by decide +kernel) (by decide +kernel)
theorem qw_197 : Cond.instantiable "PlateArm$Tally" (7 : Nat) ∈ WG := wg 197 (by decide +kernel) (by decide +kernel)
theorem qw_199 : Cond.instanceMethod ({ cls := "PlateArm$Tally", name := "<init>", desc := "()V" } : MethodName) ∈ WG := wg 199 (by decide +kernel) (by decide +kernel)
theorem qw_200 : Cond.code ({ cls := "PlateArm$Tally", name := "<init>", desc := "()V" } : MethodName) prog_9_method_1_code (1 : Nat) (Option.none : Option Jvm.ClassFile.FieldType) ∈ WG := wg 200 (by decide +kernel) (by decide +kernel)
theorem qw_201 : Cond.methodLink "PlateArm$Tally" (1 : Nat) ({ cls := "java/lang/Object", name := "<init>", desc := "()V" } : MethodName) ∈ WG := wg 201 (by decide +kernel) (by decide +kernel)
theorem qw_202 : Cond.fieldLink "PlateArm$Tally" (7 : Nat) "PlateArm$Tally" "late" "I" ∈ WG := wg 202 (by decide +kernel) (by decide +kernel)
theorem qw_203 : Cond.fieldLink "PlateArm" (183 : Nat) "PlateArm$Tally" "late" "I" ∈ WG := wg 203 (by decide +kernel) (by decide +kernel)
theorem qw_204 : Cond.fieldLink "PlateArm$State" (185 : Nat) "PlateArm$Tally" "late" "I" ∈ WG := wg 204 (by decide +kernel) (by decide +kernel)
theorem qw_205 : Cond.fieldLink "PlateArm$Tally" (13 : Nat) "PlateArm$Tally" "givenUp" "I" ∈ WG := wg 205 (by decide +kernel) (by decide +kernel)
theorem qw_206 : Cond.fieldLink "PlateArm" (188 : Nat) "PlateArm$Tally" "givenUp" "I" ∈ WG := wg 206 (by decide +kernel) (by decide +kernel)
theorem qw_207 : Cond.fieldLink "PlateArm$State" (192 : Nat) "PlateArm$Tally" "givenUp" "I" ∈ WG := wg 207 (by decide +kernel) (by decide +kernel)
theorem qw_208 : Cond.fieldLink "PlateArm$Tally" (16 : Nat) "PlateArm$Tally" "steps" "I" ∈ WG := wg 208 (by decide +kernel) (by decide +kernel)
theorem qw_209 : Cond.fieldLink "PlateArm" (191 : Nat) "PlateArm$Tally" "steps" "I" ∈ WG := wg 209 (by decide +kernel) (by decide +kernel)
theorem qw_210 : Cond.fieldLink "PlateArm$State" (171 : Nat) "PlateArm$Tally" "steps" "I" ∈ WG := wg 210 (by decide +kernel) (by decide +kernel)
theorem qw_211 : Cond.fieldLink "PlateArm$Tally" (19 : Nat) "PlateArm$Tally" "starts" "I" ∈ WG := wg 211 (by decide +kernel) (by decide +kernel)
theorem qw_212 : Cond.fieldLink "PlateArm" (194 : Nat) "PlateArm$Tally" "starts" "I" ∈ WG := wg 212 (by decide +kernel) (by decide +kernel)
theorem qw_213 : Cond.fieldLink "PlateArm$State" (168 : Nat) "PlateArm$Tally" "starts" "I" ∈ WG := wg 213 (by decide +kernel) (by decide +kernel)
theorem qw_214 : Cond.fieldLink "PlateArm$Tally" (22 : Nat) "PlateArm$Tally" "brakings" "I" ∈ WG := wg 214 (by decide +kernel) (by decide +kernel)
theorem qw_215 : Cond.fieldLink "PlateArm" (197 : Nat) "PlateArm$Tally" "brakings" "I" ∈ WG := wg 215 (by decide +kernel) (by decide +kernel)
theorem qw_216 : Cond.fieldLink "PlateArm$State" (178 : Nat) "PlateArm$Tally" "brakings" "I" ∈ WG := wg 216 (by decide +kernel) (by decide +kernel)
theorem qw_217 : Cond.fieldLink "PlateArm$Tally" (25 : Nat) "PlateArm$Tally" "restedTicks" "I" ∈ WG := wg 217 (by decide +kernel) (by decide +kernel)
theorem qw_218 : Cond.fieldLink "PlateArm$State" (122 : Nat) "PlateArm$Tally" "restedTicks" "I" ∈ WG := wg 218 (by decide +kernel) (by decide +kernel)
theorem qw_219 : Cond.fieldLink "PlateArm" (200 : Nat) "PlateArm$Tally" "restedTicks" "I" ∈ WG := wg 219 (by decide +kernel) (by decide +kernel)
theorem qw_220 : Cond.fieldLink "PlateArm$Tally" (28 : Nat) "PlateArm$Tally" "greatestHeat" "I" ∈ WG := wg 220 (by decide +kernel) (by decide +kernel)
theorem qw_221 : Cond.fieldLink "PlateArm$State" (141 : Nat) "PlateArm$Tally" "greatestHeat" "I" ∈ WG := wg 221 (by decide +kernel) (by decide +kernel)
theorem qw_222 : Cond.fieldLink "PlateArm" (203 : Nat) "PlateArm$Tally" "greatestHeat" "I" ∈ WG := wg 222 (by decide +kernel) (by decide +kernel)
theorem qw_238 : Cond.fieldLink "PlateArm$State" (9 : Nat) "PlateArm$State" "tracks" "I" ∈ WG := wg 238 (by decide +kernel) (by decide +kernel)
theorem qw_239 : Cond.fieldLink "PlateArm" (170 : Nat) "PlateArm$State" "tracks" "I" ∈ WG := wg 239 (by decide +kernel) (by decide +kernel)
theorem qw_240 : Cond.fieldLink "PlateArm$State" (15 : Nat) "PlateArm$State" "sectors" "I" ∈ WG := wg 240 (by decide +kernel) (by decide +kernel)
theorem qw_241 : Cond.fieldLink "PlateArm" (173 : Nat) "PlateArm$State" "sectors" "I" ∈ WG := wg 241 (by decide +kernel) (by decide +kernel)
theorem qw_242 : Cond.fieldLink "PlateArm$State" (50 : Nat) "PlateArm$State" "tick" "I" ∈ WG := wg 242 (by decide +kernel) (by decide +kernel)
theorem qw_243 : Cond.fieldLink "PlateArm" (77 : Nat) "PlateArm$State" "tick" "I" ∈ WG := wg 243 (by decide +kernel) (by decide +kernel)
theorem qw_244 : Cond.fieldLink "PlateArm$State" (18 : Nat) "PlateArm$State" "settings" "[I" ∈ WG := wg 244 (by decide +kernel) (by decide +kernel)
theorem qw_245 : Cond.fieldLink "PlateArm" (102 : Nat) "PlateArm$State" "settings" "[I" ∈ WG := wg 245 (by decide +kernel) (by decide +kernel)
theorem qw_246 : Cond.fieldLink "PlateArm$State" (25 : Nat) "PlateArm$State" "arm" "LPlateArm$Arm;" ∈ WG := wg 246 (by decide +kernel) (by decide +kernel)
theorem qw_247 : Cond.fieldLink "PlateArm" (145 : Nat) "PlateArm$State" "arm" "LPlateArm$Arm;" ∈ WG := wg 247 (by decide +kernel) (by decide +kernel)
theorem qw_248 : Cond.fieldLink "PlateArm$State" (32 : Nat) "PlateArm$State" "requests" "LPlateArm$Requests;" ∈ WG := wg 248 (by decide +kernel) (by decide +kernel)
theorem qw_249 : Cond.fieldLink "PlateArm" (52 : Nat) "PlateArm$State" "requests" "LPlateArm$Requests;" ∈ WG := wg 249 (by decide +kernel) (by decide +kernel)
theorem qw_250 : Cond.fieldLink "PlateArm$State" (39 : Nat) "PlateArm$State" "log" "LPlateArm$Log;" ∈ WG := wg 250 (by decide +kernel) (by decide +kernel)
theorem qw_251 : Cond.fieldLink "PlateArm" (112 : Nat) "PlateArm$State" "log" "LPlateArm$Log;" ∈ WG := wg 251 (by decide +kernel) (by decide +kernel)
theorem qw_252 : Cond.fieldLink "PlateArm$State" (46 : Nat) "PlateArm$State" "tally" "LPlateArm$Tally;" ∈ WG := wg 252 (by decide +kernel) (by decide +kernel)
theorem qw_253 : Cond.fieldLink "PlateArm" (179 : Nat) "PlateArm$State" "tally" "LPlateArm$Tally;" ∈ WG := wg 253 (by decide +kernel) (by decide +kernel)
theorem qw_274 : Cond.classLink "PlateArm" (28 : Nat) "PlateArm$CommandText" ∈ WG := wg 274 (by decide +kernel) (by decide +kernel)
theorem qw_275 : Cond.instantiable "PlateArm$CommandText" (2 : Nat) ∈ WG := wg 275 (by decide +kernel) (by decide +kernel)
theorem qw_277 : Cond.instanceMethod ({ cls := "PlateArm$CommandText", name := "<init>", desc := "()V" } : MethodName) ∈ WG := wg 277 (by decide +kernel) (by decide +kernel)
theorem qw_278 : Cond.code ({ cls := "PlateArm$CommandText", name := "<init>", desc := "()V" } : MethodName) prog_5_method_1_code (1 : Nat) (Option.none : Option Jvm.ClassFile.FieldType) ∈ WG := wg 278 (by decide +kernel) (by decide +kernel)
theorem qw_279 : Cond.methodLink "PlateArm$CommandText" (3 : Nat) ({ cls := "java/lang/Object", name := "<init>", desc := "()V" } : MethodName) ∈ WG := wg 279 (by decide +kernel) (by decide +kernel)
theorem qw_280 : Cond.fieldLink "PlateArm$CommandText" (15 : Nat) "PlateArm$CommandText" "length" "I" ∈ WG := wg 280 (by decide +kernel) (by decide +kernel)
theorem qw_281 : Cond.fieldLink "PlateArm$CommandScan" (31 : Nat) "PlateArm$CommandText" "length" "I" ∈ WG := wg 281 (by decide +kernel) (by decide +kernel)
theorem qw_282 : Cond.fieldLink "PlateArm" (206 : Nat) "PlateArm$CommandText" "length" "I" ∈ WG := wg 282 (by decide +kernel) (by decide +kernel)
theorem qw_283 : Cond.fieldLink "PlateArm$CommandText" (11 : Nat) "PlateArm$CommandText" "bytes" "[B" ∈ WG := wg 283 (by decide +kernel) (by decide +kernel)
theorem qw_289 : Cond.arrayClass FieldType.byte ∈ WG := wg 289 (by decide +kernel) (by decide +kernel)
theorem qw_290 : Cond.classLink "PlateArm" (35 : Nat) "PlateArm$CommandScan" ∈ WG := wg 290 (by decide +kernel) (by decide +kernel)
theorem qw_291 : Cond.instantiable "PlateArm$CommandScan" (6 : Nat) ∈ WG := wg 291 (by decide +kernel) (by decide +kernel)
theorem qw_293 : Cond.instanceMethod ({ cls := "PlateArm$CommandScan", name := "<init>", desc := "()V" } : MethodName) ∈ WG := wg 293 (by decide +kernel) (by decide +kernel)
theorem qw_294 : Cond.code ({ cls := "PlateArm$CommandScan", name := "<init>", desc := "()V" } : MethodName) prog_4_method_1_code (1 : Nat) (Option.none : Option Jvm.ClassFile.FieldType) ∈ WG := wg 294 (by decide +kernel) (by decide +kernel)
theorem qw_295 : Cond.methodLink "PlateArm$CommandScan" (3 : Nat) ({ cls := "java/lang/Object", name := "<init>", desc := "()V" } : MethodName) ∈ WG := wg 295 (by decide +kernel) (by decide +kernel)
theorem qw_296 : Cond.fieldLink "PlateArm$CommandScan" (9 : Nat) "PlateArm$Word" "UNKNOWN" "LPlateArm$Word;" ∈ WG := wg 296 (by decide +kernel) (by decide +kernel)
theorem qw_298 : Cond.fieldLink "PlateArm$CommandScan" (15 : Nat) "PlateArm$CommandScan" "word" "LPlateArm$Word;" ∈ WG := wg 298 (by decide +kernel) (by decide +kernel)
theorem qw_299 : Cond.fieldLink "PlateArm" (251 : Nat) "PlateArm$CommandScan" "word" "LPlateArm$Word;" ∈ WG := wg 299 (by decide +kernel) (by decide +kernel)
theorem qw_300 : Cond.fieldLink "PlateArm$CommandScan" (20 : Nat) "PlateArm$CommandScan" "numbers" "[I" ∈ WG := wg 300 (by decide +kernel) (by decide +kernel)
theorem qw_301 : Cond.fieldLink "PlateArm" (255 : Nat) "PlateArm$CommandScan" "numbers" "[I" ∈ WG := wg 301 (by decide +kernel) (by decide +kernel)
theorem qw_302 : Cond.fieldLink "PlateArm$CommandScan" (24 : Nat) "PlateArm$CommandScan" "place" "I" ∈ WG := wg 302 (by decide +kernel) (by decide +kernel)
theorem qw_303 : Cond.fieldLink "PlateArm$CommandScan" (40 : Nat) "PlateArm$CommandScan" "wordStart" "I" ∈ WG := wg 303 (by decide +kernel) (by decide +kernel)
theorem qw_304 : Cond.fieldLink "PlateArm$CommandScan" (69 : Nat) "PlateArm$CommandScan" "numberCount" "I" ∈ WG := wg 304 (by decide +kernel) (by decide +kernel)
theorem qw_305 : Cond.fieldLink "PlateArm$CommandScan" (80 : Nat) "PlateArm$CommandScan" "digits" "I" ∈ WG := wg 305 (by decide +kernel) (by decide +kernel)
theorem qw_319 : Cond.fieldLink "PlateArm" (10 : Nat) "PlateArm" "state" "LPlateArm$State;" ∈ WG := wg 319 (by decide +kernel) (by decide +kernel)
theorem qw_320 : Cond.fieldLink "PlateArm" (16 : Nat) "PlateArm" "trial" "LPlateArm$State;" ∈ WG := wg 320 (by decide +kernel) (by decide +kernel)
theorem qw_321 : Cond.fieldLink "PlateArm" (19 : Nat) "PlateArm" "saved" "[LPlateArm$State;" ∈ WG := wg 321 (by decide +kernel) (by decide +kernel)
theorem qw_322 : Cond.fieldLink "PlateArm" (260 : Nat) "PlateArm" "savedCount" "I" ∈ WG := wg 322 (by decide +kernel) (by decide +kernel)
theorem qw_323 : Cond.fieldLink "PlateArm" (25 : Nat) "PlateArm" "forecasts" "[[I" ∈ WG := wg 323 (by decide +kernel) (by decide +kernel)
theorem qw_324 : Cond.fieldLink "PlateArm" (31 : Nat) "PlateArm" "text" "LPlateArm$CommandText;" ∈ WG := wg 324 (by decide +kernel) (by decide +kernel)
theorem qw_325 : Cond.fieldLink "PlateArm" (38 : Nat) "PlateArm" "scan" "LPlateArm$CommandScan;" ∈ WG := wg 325 (by decide +kernel) (by decide +kernel)
theorem qw_345 : Cond.methodLink "PlateArm" (221 : Nat) ({ cls := "PlateArm", name := "forecastAll", desc := "()V" } : MethodName) ∈ WG := wg 345 (by decide +kernel) (by decide +kernel)
theorem qw_347 : Cond.instanceMethod ({ cls := "PlateArm", name := "forecastAll", desc := "()V" } : MethodName) ∈ WG := wg 347 (by decide +kernel) (by decide +kernel)
theorem qw_348 : Cond.code ({ cls := "PlateArm", name := "forecastAll", desc := "()V" } : MethodName) prog_1_method_35_code (2 : Nat) (Option.none : Option Jvm.ClassFile.FieldType) ∈ WG := wg 348 (by decide +kernel) (by decide +kernel)
theorem qw_349 : Cond.methodLink "PlateArm" (218 : Nat) ({ cls := "PlateArm", name := "forecast", desc := "(I)V" } : MethodName) ∈ WG := wg 349 (by decide +kernel) (by decide +kernel)
theorem qw_351 : Cond.instanceMethod ({ cls := "PlateArm", name := "forecast", desc := "(I)V" } : MethodName) ∈ WG := wg 351 (by decide +kernel) (by decide +kernel)
theorem qw_352 : Cond.code ({ cls := "PlateArm", name := "forecast", desc := "(I)V" } : MethodName) prog_1_method_36_code (3 : Nat) (Option.none : Option Jvm.ClassFile.FieldType) ∈ WG := wg 352 (by decide +kernel) (by decide +kernel)
theorem qw_353 : Cond.methodLink "PlateArm" (124 : Nat) ({ cls := "PlateArm$State", name := "copyFrom", desc := "(LPlateArm$State;)V" } : MethodName) ∈ WG := wg 353 (by decide +kernel) (by decide +kernel)
theorem qw_354 : Cond.instanceMethod ({ cls := "PlateArm$State", name := "copyFrom", desc := "(LPlateArm$State;)V" } : MethodName) ∈ WG := wg 354 (by decide +kernel) (by decide +kernel)
theorem qw_355 : Cond.selects "PlateArm$State" ({ cls := "PlateArm$State", name := "copyFrom", desc := "(LPlateArm$State;)V" } : MethodName) ({ cls := "PlateArm$State", name := "copyFrom", desc := "(LPlateArm$State;)V" } : MethodName) ∈ WG := wg 355 (by decide +kernel) (by decide +kernel)
theorem qw_356 : Cond.code ({ cls := "PlateArm$State", name := "copyFrom", desc := "(LPlateArm$State;)V" } : MethodName) prog_8_method_3_code (2 : Nat) (Option.none : Option Jvm.ClassFile.FieldType) ∈ WG := wg 356 (by decide +kernel) (by decide +kernel)
theorem qw_357 : Cond.methodLink "PlateArm$State" (59 : Nat) ({ cls := "java/lang/System", name := "arraycopy", desc := "(Ljava/lang/Object;ILjava/lang/Object;II)V" } : MethodName) ∈ WG := wg 357 (by decide +kernel) (by decide +kernel)
theorem qw_358 : Cond.static ({ cls := "java/lang/System", name := "arraycopy", desc := "(Ljava/lang/Object;ILjava/lang/Object;II)V" } : MethodName) ∈ WG := wg 358 (by decide +kernel) (by decide +kernel)
theorem qw_359 : Cond.native ({ cls := "java/lang/System", name := "arraycopy", desc := "(Ljava/lang/Object;ILjava/lang/Object;II)V" } : MethodName) ∈ WG := wg 359 (by decide +kernel) (by decide +kernel)
theorem qw_360 : Cond.methodLink "PlateArm$State" (65 : Nat) ({ cls := "PlateArm$Arm", name := "copyFrom", desc := "(LPlateArm$Arm;)V" } : MethodName) ∈ WG := wg 360 (by decide +kernel) (by decide +kernel)
theorem qw_361 : Cond.instanceMethod ({ cls := "PlateArm$Arm", name := "copyFrom", desc := "(LPlateArm$Arm;)V" } : MethodName) ∈ WG := wg 361 (by decide +kernel) (by decide +kernel)
theorem qw_362 : Cond.selects "PlateArm$Arm" ({ cls := "PlateArm$Arm", name := "copyFrom", desc := "(LPlateArm$Arm;)V" } : MethodName) ({ cls := "PlateArm$Arm", name := "copyFrom", desc := "(LPlateArm$Arm;)V" } : MethodName) ∈ WG := wg 362 (by decide +kernel) (by decide +kernel)
theorem qw_363 : Cond.code ({ cls := "PlateArm$Arm", name := "copyFrom", desc := "(LPlateArm$Arm;)V" } : MethodName) prog_3_method_4_code (2 : Nat) (Option.none : Option Jvm.ClassFile.FieldType) ∈ WG := wg 363 (by decide +kernel) (by decide +kernel)
theorem qw_364 : Cond.methodLink "PlateArm$State" (69 : Nat) ({ cls := "PlateArm$Requests", name := "copyFrom", desc := "(LPlateArm$Requests;)V" } : MethodName) ∈ WG := wg 364 (by decide +kernel) (by decide +kernel)
theorem qw_365 : Cond.instanceMethod ({ cls := "PlateArm$Requests", name := "copyFrom", desc := "(LPlateArm$Requests;)V" } : MethodName) ∈ WG := wg 365 (by decide +kernel) (by decide +kernel)
theorem qw_366 : Cond.selects "PlateArm$Requests" ({ cls := "PlateArm$Requests", name := "copyFrom", desc := "(LPlateArm$Requests;)V" } : MethodName) ({ cls := "PlateArm$Requests", name := "copyFrom", desc := "(LPlateArm$Requests;)V" } : MethodName) ∈ WG := wg 366 (by decide +kernel) (by decide +kernel)
theorem qw_367 : Cond.code ({ cls := "PlateArm$Requests", name := "copyFrom", desc := "(LPlateArm$Requests;)V" } : MethodName) prog_7_method_3_code (2 : Nat) (Option.none : Option Jvm.ClassFile.FieldType) ∈ WG := wg 367 (by decide +kernel) (by decide +kernel)
theorem qw_368 : Cond.methodLink "PlateArm$Requests" (34 : Nat) ({ cls := "java/lang/System", name := "arraycopy", desc := "(Ljava/lang/Object;ILjava/lang/Object;II)V" } : MethodName) ∈ WG := wg 368 (by decide +kernel) (by decide +kernel)
theorem qw_369 : Cond.methodLink "PlateArm$State" (72 : Nat) ({ cls := "PlateArm$Log", name := "copyFrom", desc := "(LPlateArm$Log;)V" } : MethodName) ∈ WG := wg 369 (by decide +kernel) (by decide +kernel)
theorem qw_370 : Cond.instanceMethod ({ cls := "PlateArm$Log", name := "copyFrom", desc := "(LPlateArm$Log;)V" } : MethodName) ∈ WG := wg 370 (by decide +kernel) (by decide +kernel)
theorem qw_371 : Cond.selects "PlateArm$Log" ({ cls := "PlateArm$Log", name := "copyFrom", desc := "(LPlateArm$Log;)V" } : MethodName) ({ cls := "PlateArm$Log", name := "copyFrom", desc := "(LPlateArm$Log;)V" } : MethodName) ∈ WG := wg 371 (by decide +kernel) (by decide +kernel)
theorem qw_372 : Cond.code ({ cls := "PlateArm$Log", name := "copyFrom", desc := "(LPlateArm$Log;)V" } : MethodName) prog_6_method_3_code (2 : Nat) (Option.none : Option Jvm.ClassFile.FieldType) ∈ WG := wg 372 (by decide +kernel) (by decide +kernel)
theorem qw_373 : Cond.methodLink "PlateArm$Log" (19 : Nat) ({ cls := "java/lang/System", name := "arraycopy", desc := "(Ljava/lang/Object;ILjava/lang/Object;II)V" } : MethodName) ∈ WG := wg 373 (by decide +kernel) (by decide +kernel)
theorem qw_374 : Cond.methodLink "PlateArm$State" (75 : Nat) ({ cls := "PlateArm$Tally", name := "copyFrom", desc := "(LPlateArm$Tally;)V" } : MethodName) ∈ WG := wg 374 (by decide +kernel) (by decide +kernel)
theorem qw_375 : Cond.instanceMethod ({ cls := "PlateArm$Tally", name := "copyFrom", desc := "(LPlateArm$Tally;)V" } : MethodName) ∈ WG := wg 375 (by decide +kernel) (by decide +kernel)
theorem qw_376 : Cond.selects "PlateArm$Tally" ({ cls := "PlateArm$Tally", name := "copyFrom", desc := "(LPlateArm$Tally;)V" } : MethodName) ({ cls := "PlateArm$Tally", name := "copyFrom", desc := "(LPlateArm$Tally;)V" } : MethodName) ∈ WG := wg 376 (by decide +kernel) (by decide +kernel)
theorem qw_377 : Cond.code ({ cls := "PlateArm$Tally", name := "copyFrom", desc := "(LPlateArm$Tally;)V" } : MethodName) prog_9_method_3_code (2 : Nat) (Option.none : Option Jvm.ClassFile.FieldType) ∈ WG := wg 377 (by decide +kernel) (by decide +kernel)
theorem qw_378 : Cond.methodLink "PlateArm" (128 : Nat) ({ cls := "PlateArm$State", name := "passUntilEmpty", desc := "()I" } : MethodName) ∈ WG := wg 378 (by decide +kernel) (by decide +kernel)
theorem qw_379 : Cond.instanceMethod ({ cls := "PlateArm$State", name := "passUntilEmpty", desc := "()I" } : MethodName) ∈ WG := wg 379 (by decide +kernel) (by decide +kernel)
theorem qw_380 : Cond.selects "PlateArm$State" ({ cls := "PlateArm$State", name := "passUntilEmpty", desc := "()I" } : MethodName) ({ cls := "PlateArm$State", name := "passUntilEmpty", desc := "()I" } : MethodName) ∈ WG := wg 380 (by decide +kernel) (by decide +kernel)
theorem qw_381 : Cond.code ({ cls := "PlateArm$State", name := "passUntilEmpty", desc := "()I" } : MethodName) prog_8_method_6_code (2 : Nat) (Option.some FieldType.int) ∈ WG := wg 381 (by decide +kernel) (by decide +kernel)
theorem qw_382 : Cond.methodLink "PlateArm$State" (78 : Nat) ({ cls := "PlateArm$State", name := "beginTick", desc := "()V" } : MethodName) ∈ WG := wg 382 (by decide +kernel) (by decide +kernel)
theorem qw_384 : Cond.instanceMethod ({ cls := "PlateArm$State", name := "beginTick", desc := "()V" } : MethodName) ∈ WG := wg 384 (by decide +kernel) (by decide +kernel)
theorem qw_385 : Cond.code ({ cls := "PlateArm$State", name := "beginTick", desc := "()V" } : MethodName) prog_8_method_10_code (3 : Nat) (Option.none : Option Jvm.ClassFile.FieldType) ∈ WG := wg 385 (by decide +kernel) (by decide +kernel)
theorem qw_386 : Cond.methodLink "PlateArm$State" (94 : Nat) ({ cls := "PlateArm$State", name := "lowest", desc := "(II)I" } : MethodName) ∈ WG := wg 386 (by decide +kernel) (by decide +kernel)
theorem qw_388 : Cond.instanceMethod ({ cls := "PlateArm$State", name := "lowest", desc := "(II)I" } : MethodName) ∈ WG := wg 388 (by decide +kernel) (by decide +kernel)
theorem qw_389 : Cond.code ({ cls := "PlateArm$State", name := "lowest", desc := "(II)I" } : MethodName) prog_8_method_12_code (7 : Nat) (Option.some FieldType.int) ∈ WG := wg 389 (by decide +kernel) (by decide +kernel)
theorem qw_390 : Cond.methodLink "PlateArm$State" (152 : Nat) ({ cls := "PlateArm$State", name := "rankOf", desc := "(III)I" } : MethodName) ∈ WG := wg 390 (by decide +kernel) (by decide +kernel)
theorem qw_392 : Cond.instanceMethod ({ cls := "PlateArm$State", name := "rankOf", desc := "(III)I" } : MethodName) ∈ WG := wg 392 (by decide +kernel) (by decide +kernel)
theorem qw_393 : Cond.code ({ cls := "PlateArm$State", name := "rankOf", desc := "(III)I" } : MethodName) prog_8_method_13_code (5 : Nat) (Option.some FieldType.int) ∈ WG := wg 393 (by decide +kernel) (by decide +kernel)
theorem qw_394 : Cond.methodLink "PlateArm$State" (156 : Nat) ({ cls := "java/lang/Math", name := "abs", desc := "(I)I" } : MethodName) ∈ WG := wg 394 (by decide +kernel) (by decide +kernel)
theorem qw_395 : Cond.static ({ cls := "java/lang/Math", name := "abs", desc := "(I)I" } : MethodName) ∈ WG := wg 395 (by decide +kernel) (by decide +kernel)
theorem qw_396 : Cond.code ({ cls := "java/lang/Math", name := "abs", desc := "(I)I" } : MethodName) prog_19_method_59_code (1 : Nat) (Option.some FieldType.int) ∈ WG := wg 396 (by decide +kernel) (by decide +kernel)
theorem qw_397 : Cond.methodLink "PlateArm$State" (98 : Nat) ({ cls := "PlateArm$Arm", name := "opposite", desc := "(I)I" } : MethodName) ∈ WG := wg 397 (by decide +kernel) (by decide +kernel)
theorem qw_398 : Cond.static ({ cls := "PlateArm$Arm", name := "opposite", desc := "(I)I" } : MethodName) ∈ WG := wg 398 (by decide +kernel) (by decide +kernel)
theorem qw_399 : Cond.code ({ cls := "PlateArm$Arm", name := "opposite", desc := "(I)I" } : MethodName) prog_3_method_2_code (1 : Nat) (Option.some FieldType.int) ∈ WG := wg 399 (by decide +kernel) (by decide +kernel)
theorem qw_400 : Cond.methodLink "PlateArm$State" (125 : Nat) ({ cls := "PlateArm$State", name := "moveOn", desc := "(I)V" } : MethodName) ∈ WG := wg 400 (by decide +kernel) (by decide +kernel)
theorem qw_402 : Cond.instanceMethod ({ cls := "PlateArm$State", name := "moveOn", desc := "(I)V" } : MethodName) ∈ WG := wg 402 (by decide +kernel) (by decide +kernel)
theorem qw_403 : Cond.code ({ cls := "PlateArm$State", name := "moveOn", desc := "(I)V" } : MethodName) prog_8_method_15_code (2 : Nat) (Option.none : Option Jvm.ClassFile.FieldType) ∈ WG := wg 403 (by decide +kernel) (by decide +kernel)
theorem qw_404 : Cond.methodLink "PlateArm$State" (174 : Nat) ({ cls := "PlateArm$Arm", name := "liesFarther", desc := "(I)Z" } : MethodName) ∈ WG := wg 404 (by decide +kernel) (by decide +kernel)
theorem qw_405 : Cond.instanceMethod ({ cls := "PlateArm$Arm", name := "liesFarther", desc := "(I)Z" } : MethodName) ∈ WG := wg 405 (by decide +kernel) (by decide +kernel)
theorem qw_406 : Cond.selects "PlateArm$Arm" ({ cls := "PlateArm$Arm", name := "liesFarther", desc := "(I)Z" } : MethodName) ({ cls := "PlateArm$Arm", name := "liesFarther", desc := "(I)Z" } : MethodName) ∈ WG := wg 406 (by decide +kernel) (by decide +kernel)
theorem qw_407 : Cond.code ({ cls := "PlateArm$Arm", name := "liesFarther", desc := "(I)Z" } : MethodName) prog_3_method_5_code (2 : Nat) (Option.some FieldType.boolean) ∈ WG := wg 407 (by decide +kernel) (by decide +kernel)
theorem qw_408 : Cond.methodLink "PlateArm$State" (165 : Nat) ({ cls := "PlateArm$Arm", name := "step", desc := "()V" } : MethodName) ∈ WG := wg 408 (by decide +kernel) (by decide +kernel)
theorem qw_409 : Cond.instanceMethod ({ cls := "PlateArm$Arm", name := "step", desc := "()V" } : MethodName) ∈ WG := wg 409 (by decide +kernel) (by decide +kernel)
theorem qw_410 : Cond.selects "PlateArm$Arm" ({ cls := "PlateArm$Arm", name := "step", desc := "()V" } : MethodName) ({ cls := "PlateArm$Arm", name := "step", desc := "()V" } : MethodName) ∈ WG := wg 410 (by decide +kernel) (by decide +kernel)
theorem qw_411 : Cond.code ({ cls := "PlateArm$Arm", name := "step", desc := "()V" } : MethodName) prog_3_method_6_code (1 : Nat) (Option.none : Option Jvm.ClassFile.FieldType) ∈ WG := wg 411 (by decide +kernel) (by decide +kernel)
theorem qw_412 : Cond.methodLink "PlateArm$State" (129 : Nat) ({ cls := "PlateArm$State", name := "start", desc := "(I)V" } : MethodName) ∈ WG := wg 412 (by decide +kernel) (by decide +kernel)
theorem qw_414 : Cond.instanceMethod ({ cls := "PlateArm$State", name := "start", desc := "(I)V" } : MethodName) ∈ WG := wg 414 (by decide +kernel) (by decide +kernel)
theorem qw_415 : Cond.code ({ cls := "PlateArm$State", name := "start", desc := "(I)V" } : MethodName) prog_8_method_14_code (2 : Nat) (Option.none : Option Jvm.ClassFile.FieldType) ∈ WG := wg 415 (by decide +kernel) (by decide +kernel)
theorem qw_416 : Cond.methodLink "PlateArm$State" (132 : Nat) ({ cls := "PlateArm$State", name := "readUnderArm", desc := "()V" } : MethodName) ∈ WG := wg 416 (by decide +kernel) (by decide +kernel)
theorem qw_418 : Cond.instanceMethod ({ cls := "PlateArm$State", name := "readUnderArm", desc := "()V" } : MethodName) ∈ WG := wg 418 (by decide +kernel) (by decide +kernel)
theorem qw_419 : Cond.code ({ cls := "PlateArm$State", name := "readUnderArm", desc := "()V" } : MethodName) prog_8_method_16_code (5 : Nat) (Option.none : Option Jvm.ClassFile.FieldType) ∈ WG := wg 419 (by decide +kernel) (by decide +kernel)
theorem qw_420 : Cond.methodLink "PlateArm$State" (118 : Nat) ({ cls := "PlateArm$State", name := "sectorUnderArm", desc := "()I" } : MethodName) ∈ WG := wg 420 (by decide +kernel) (by decide +kernel)
theorem qw_421 : Cond.instanceMethod ({ cls := "PlateArm$State", name := "sectorUnderArm", desc := "()I" } : MethodName) ∈ WG := wg 421 (by decide +kernel) (by decide +kernel)
theorem qw_422 : Cond.selects "PlateArm$State" ({ cls := "PlateArm$State", name := "sectorUnderArm", desc := "()I" } : MethodName) ({ cls := "PlateArm$State", name := "sectorUnderArm", desc := "()I" } : MethodName) ∈ WG := wg 422 (by decide +kernel) (by decide +kernel)
theorem qw_423 : Cond.code ({ cls := "PlateArm$State", name := "sectorUnderArm", desc := "()I" } : MethodName) prog_8_method_4_code (1 : Nat) (Option.some FieldType.int) ∈ WG := wg 423 (by decide +kernel) (by decide +kernel)
theorem qw_424 : Cond.methodLink "PlateArm$State" (181 : Nat) ({ cls := "PlateArm$Log", name := "write", desc := "(IIIIZ)V" } : MethodName) ∈ WG := wg 424 (by decide +kernel) (by decide +kernel)
theorem qw_425 : Cond.instanceMethod ({ cls := "PlateArm$Log", name := "write", desc := "(IIIIZ)V" } : MethodName) ∈ WG := wg 425 (by decide +kernel) (by decide +kernel)
theorem qw_426 : Cond.selects "PlateArm$Log" ({ cls := "PlateArm$Log", name := "write", desc := "(IIIIZ)V" } : MethodName) ({ cls := "PlateArm$Log", name := "write", desc := "(IIIIZ)V" } : MethodName) ∈ WG := wg 426 (by decide +kernel) (by decide +kernel)
theorem qw_427 : Cond.code ({ cls := "PlateArm$Log", name := "write", desc := "(IIIIZ)V" } : MethodName) prog_6_method_5_code (7 : Nat) (Option.none : Option Jvm.ClassFile.FieldType) ∈ WG := wg 427 (by decide +kernel) (by decide +kernel)
theorem qw_428 : Cond.methodLink "PlateArm$State" (188 : Nat) ({ cls := "PlateArm$Requests", name := "move", desc := "(II)V" } : MethodName) ∈ WG := wg 428 (by decide +kernel) (by decide +kernel)
theorem qw_429 : Cond.instanceMethod ({ cls := "PlateArm$Requests", name := "move", desc := "(II)V" } : MethodName) ∈ WG := wg 429 (by decide +kernel) (by decide +kernel)
theorem qw_430 : Cond.selects "PlateArm$Requests" ({ cls := "PlateArm$Requests", name := "move", desc := "(II)V" } : MethodName) ({ cls := "PlateArm$Requests", name := "move", desc := "(II)V" } : MethodName) ∈ WG := wg 430 (by decide +kernel) (by decide +kernel)
theorem qw_431 : Cond.code ({ cls := "PlateArm$Requests", name := "move", desc := "(II)V" } : MethodName) prog_7_method_7_code (3 : Nat) (Option.none : Option Jvm.ClassFile.FieldType) ∈ WG := wg 431 (by decide +kernel) (by decide +kernel)
theorem qw_432 : Cond.methodLink "PlateArm$State" (81 : Nat) ({ cls := "PlateArm$State", name := "endTick", desc := "()V" } : MethodName) ∈ WG := wg 432 (by decide +kernel) (by decide +kernel)
theorem qw_434 : Cond.instanceMethod ({ cls := "PlateArm$State", name := "endTick", desc := "()V" } : MethodName) ∈ WG := wg 434 (by decide +kernel) (by decide +kernel)
theorem qw_435 : Cond.code ({ cls := "PlateArm$State", name := "endTick", desc := "()V" } : MethodName) prog_8_method_11_code (1 : Nat) (Option.none : Option Jvm.ClassFile.FieldType) ∈ WG := wg 435 (by decide +kernel) (by decide +kernel)
theorem qw_436 : Cond.methodLink "PlateArm$State" (135 : Nat) ({ cls := "PlateArm$State", name := "giveUp", desc := "()V" } : MethodName) ∈ WG := wg 436 (by decide +kernel) (by decide +kernel)
theorem qw_438 : Cond.instanceMethod ({ cls := "PlateArm$State", name := "giveUp", desc := "()V" } : MethodName) ∈ WG := wg 438 (by decide +kernel) (by decide +kernel)
theorem qw_439 : Cond.code ({ cls := "PlateArm$State", name := "giveUp", desc := "()V" } : MethodName) prog_8_method_17_code (3 : Nat) (Option.none : Option Jvm.ClassFile.FieldType) ∈ WG := wg 439 (by decide +kernel) (by decide +kernel)
theorem qw_440 : Cond.methodLink "PlateArm$State" (138 : Nat) ({ cls := "PlateArm$Arm", name := "cool", desc := "(I)V" } : MethodName) ∈ WG := wg 440 (by decide +kernel) (by decide +kernel)
theorem qw_441 : Cond.instanceMethod ({ cls := "PlateArm$Arm", name := "cool", desc := "(I)V" } : MethodName) ∈ WG := wg 441 (by decide +kernel) (by decide +kernel)
theorem qw_442 : Cond.selects "PlateArm$Arm" ({ cls := "PlateArm$Arm", name := "cool", desc := "(I)V" } : MethodName) ({ cls := "PlateArm$Arm", name := "cool", desc := "(I)V" } : MethodName) ∈ WG := wg 442 (by decide +kernel) (by decide +kernel)
theorem qw_443 : Cond.code ({ cls := "PlateArm$Arm", name := "cool", desc := "(I)V" } : MethodName) prog_3_method_7_code (2 : Nat) (Option.none : Option Jvm.ClassFile.FieldType) ∈ WG := wg 443 (by decide +kernel) (by decide +kernel)
theorem qw_444 : Cond.methodLink "PlateArm$State" (147 : Nat) ({ cls := "java/lang/Math", name := "max", desc := "(II)I" } : MethodName) ∈ WG := wg 444 (by decide +kernel) (by decide +kernel)
theorem qw_445 : Cond.static ({ cls := "java/lang/Math", name := "max", desc := "(II)I" } : MethodName) ∈ WG := wg 445 (by decide +kernel) (by decide +kernel)
theorem qw_446 : Cond.code ({ cls := "java/lang/Math", name := "max", desc := "(II)I" } : MethodName) prog_19_method_65_code (2 : Nat) (Option.some FieldType.int) ∈ WG := wg 446 (by decide +kernel) (by decide +kernel)
theorem qw_447 : Cond.methodLink "PlateArm" (224 : Nat) ({ cls := "PlateArm", name := "bestForecast", desc := "()I" } : MethodName) ∈ WG := wg 447 (by decide +kernel) (by decide +kernel)
theorem qw_449 : Cond.instanceMethod ({ cls := "PlateArm", name := "bestForecast", desc := "()I" } : MethodName) ∈ WG := wg 449 (by decide +kernel) (by decide +kernel)
theorem qw_450 : Cond.code ({ cls := "PlateArm", name := "bestForecast", desc := "()I" } : MethodName) prog_1_method_37_code (4 : Nat) (Option.some FieldType.int) ∈ WG := wg 450 (by decide +kernel) (by decide +kernel)
theorem qw_451 : Cond.methodLink "PlateArm" (309 : Nat) ({ cls := "java/lang/Integer", name := "compare", desc := "(II)I" } : MethodName) ∈ WG := wg 451 (by decide +kernel) (by decide +kernel)
theorem qw_452 : Cond.static ({ cls := "java/lang/Integer", name := "compare", desc := "(II)I" } : MethodName) ∈ WG := wg 452 (by decide +kernel) (by decide +kernel)
theorem qw_453 : Cond.code ({ cls := "java/lang/Integer", name := "compare", desc := "(II)I" } : MethodName) prog_18_method_40_code (2 : Nat) (Option.some FieldType.int) ∈ WG := wg 453 (by decide +kernel) (by decide +kernel)
theorem qw_455 : Cond.instanceMethod ({ cls := "PlateArm", name := "widest", desc := "()I" } : MethodName) ∈ WG := wg 455 (by decide +kernel) (by decide +kernel)
theorem qw_456 : Cond.selects "PlateArm" ({ cls := "PlateArm", name := "widest", desc := "()I" } : MethodName) ({ cls := "PlateArm", name := "widest", desc := "()I" } : MethodName) ∈ WG := wg 456 (by decide +kernel) (by decide +kernel)
theorem qw_457 : Cond.code ({ cls := "PlateArm", name := "widest", desc := "()I" } : MethodName) prog_1_method_18_code (1 : Nat) (Option.some FieldType.int) ∈ WG := wg 457 (by decide +kernel) (by decide +kernel)
theorem qw_458 : Cond.methodLink "PlateArm" (227 : Nat) ({ cls := "PlateArm$Requests", name := "spread", desc := "()I" } : MethodName) ∈ WG := wg 458 (by decide +kernel) (by decide +kernel)
theorem qw_459 : Cond.instanceMethod ({ cls := "PlateArm$Requests", name := "spread", desc := "()I" } : MethodName) ∈ WG := wg 459 (by decide +kernel) (by decide +kernel)
theorem qw_460 : Cond.selects "PlateArm$Requests" ({ cls := "PlateArm$Requests", name := "spread", desc := "()I" } : MethodName) ({ cls := "PlateArm$Requests", name := "spread", desc := "()I" } : MethodName) ∈ WG := wg 460 (by decide +kernel) (by decide +kernel)
theorem qw_461 : Cond.code ({ cls := "PlateArm$Requests", name := "spread", desc := "()I" } : MethodName) prog_7_method_9_code (4 : Nat) (Option.some FieldType.int) ∈ WG := wg 461 (by decide +kernel) (by decide +kernel)
theorem qw_462 : Cond.methodLink "PlateArm$Requests" (48 : Nat) ({ cls := "java/lang/Math", name := "min", desc := "(II)I" } : MethodName) ∈ WG := wg 462 (by decide +kernel) (by decide +kernel)
theorem qw_463 : Cond.static ({ cls := "java/lang/Math", name := "min", desc := "(II)I" } : MethodName) ∈ WG := wg 463 (by decide +kernel) (by decide +kernel)
theorem qw_464 : Cond.code ({ cls := "java/lang/Math", name := "min", desc := "(II)I" } : MethodName) prog_19_method_69_code (2 : Nat) (Option.some FieldType.int) ∈ WG := wg 464 (by decide +kernel) (by decide +kernel)
theorem qw_465 : Cond.methodLink "PlateArm$Requests" (54 : Nat) ({ cls := "java/lang/Math", name := "max", desc := "(II)I" } : MethodName) ∈ WG := wg 465 (by decide +kernel) (by decide +kernel)
theorem qw_474 : Cond.methodLink "PlateArm" (237 : Nat) ({ cls := "PlateArm$CommandScan", name := "faultOf", desc := "(LPlateArm$CommandText;)I" } : MethodName) ∈ WG := wg 474 (by decide +kernel) (by decide +kernel)
theorem qw_475 : Cond.instanceMethod ({ cls := "PlateArm$CommandScan", name := "faultOf", desc := "(LPlateArm$CommandText;)I" } : MethodName) ∈ WG := wg 475 (by decide +kernel) (by decide +kernel)
theorem qw_476 : Cond.selects "PlateArm$CommandScan" ({ cls := "PlateArm$CommandScan", name := "faultOf", desc := "(LPlateArm$CommandText;)I" } : MethodName) ({ cls := "PlateArm$CommandScan", name := "faultOf", desc := "(LPlateArm$CommandText;)I" } : MethodName) ∈ WG := wg 476 (by decide +kernel) (by decide +kernel)
theorem qw_477 : Cond.code ({ cls := "PlateArm$CommandScan", name := "faultOf", desc := "(LPlateArm$CommandText;)I" } : MethodName) prog_4_method_3_code (4 : Nat) (Option.some FieldType.int) ∈ WG := wg 477 (by decide +kernel) (by decide +kernel)
theorem qw_478 : Cond.methodLink "PlateArm$CommandScan" (28 : Nat) ({ cls := "PlateArm$CommandScan", name := "begin", desc := "()V" } : MethodName) ∈ WG := wg 478 (by decide +kernel) (by decide +kernel)
theorem qw_479 : Cond.instanceMethod ({ cls := "PlateArm$CommandScan", name := "begin", desc := "()V" } : MethodName) ∈ WG := wg 479 (by decide +kernel) (by decide +kernel)
theorem qw_480 : Cond.selects "PlateArm$CommandScan" ({ cls := "PlateArm$CommandScan", name := "begin", desc := "()V" } : MethodName) ({ cls := "PlateArm$CommandScan", name := "begin", desc := "()V" } : MethodName) ∈ WG := wg 480 (by decide +kernel) (by decide +kernel)
theorem qw_481 : Cond.code ({ cls := "PlateArm$CommandScan", name := "begin", desc := "()V" } : MethodName) prog_4_method_2_code (1 : Nat) (Option.none : Option Jvm.ClassFile.FieldType) ∈ WG := wg 481 (by decide +kernel) (by decide +kernel)
theorem qw_482 : Cond.methodLink "PlateArm$CommandScan" (36 : Nat) ({ cls := "PlateArm$CommandScan", name := "take", desc := "(LPlateArm$CommandText;I)I" } : MethodName) ∈ WG := wg 482 (by decide +kernel) (by decide +kernel)
theorem qw_483 : Cond.instanceMethod ({ cls := "PlateArm$CommandScan", name := "take", desc := "(LPlateArm$CommandText;I)I" } : MethodName) ∈ WG := wg 483 (by decide +kernel) (by decide +kernel)
theorem qw_484 : Cond.selects "PlateArm$CommandScan" ({ cls := "PlateArm$CommandScan", name := "take", desc := "(LPlateArm$CommandText;I)I" } : MethodName) ({ cls := "PlateArm$CommandScan", name := "take", desc := "(LPlateArm$CommandText;I)I" } : MethodName) ∈ WG := wg 484 (by decide +kernel) (by decide +kernel)
theorem qw_485 : Cond.code ({ cls := "PlateArm$CommandScan", name := "take", desc := "(LPlateArm$CommandText;I)I" } : MethodName) prog_4_method_4_code (4 : Nat) (Option.some FieldType.int) ∈ WG := wg 485 (by decide +kernel) (by decide +kernel)
theorem qw_486 : Cond.methodLink "PlateArm$CommandScan" (47 : Nat) ({ cls := "PlateArm$CommandText", name := "byteAt", desc := "(I)I" } : MethodName) ∈ WG := wg 486 (by decide +kernel) (by decide +kernel)
theorem qw_487 : Cond.instanceMethod ({ cls := "PlateArm$CommandText", name := "byteAt", desc := "(I)I" } : MethodName) ∈ WG := wg 487 (by decide +kernel) (by decide +kernel)
theorem qw_488 : Cond.selects "PlateArm$CommandText" ({ cls := "PlateArm$CommandText", name := "byteAt", desc := "(I)I" } : MethodName) ({ cls := "PlateArm$CommandText", name := "byteAt", desc := "(I)I" } : MethodName) ∈ WG := wg 488 (by decide +kernel) (by decide +kernel)
theorem qw_489 : Cond.code ({ cls := "PlateArm$CommandText", name := "byteAt", desc := "(I)I" } : MethodName) prog_5_method_4_code (2 : Nat) (Option.some FieldType.int) ∈ WG := wg 489 (by decide +kernel) (by decide +kernel)
theorem qw_490 : Cond.methodLink "PlateArm$CommandScan" (51 : Nat) ({ cls := "PlateArm$CommandScan", name := "takeInFront", desc := "(II)I" } : MethodName) ∈ WG := wg 490 (by decide +kernel) (by decide +kernel)
theorem qw_492 : Cond.instanceMethod ({ cls := "PlateArm$CommandScan", name := "takeInFront", desc := "(II)I" } : MethodName) ∈ WG := wg 492 (by decide +kernel) (by decide +kernel)
theorem qw_493 : Cond.code ({ cls := "PlateArm$CommandScan", name := "takeInFront", desc := "(II)I" } : MethodName) prog_4_method_5_code (3 : Nat) (Option.some FieldType.int) ∈ WG := wg 493 (by decide +kernel) (by decide +kernel)
theorem qw_494 : Cond.methodLink "PlateArm$CommandScan" (65 : Nat) ({ cls := "PlateArm$CommandScan", name := "isLetter", desc := "(I)Z" } : MethodName) ∈ WG := wg 494 (by decide +kernel) (by decide +kernel)
theorem qw_495 : Cond.static ({ cls := "PlateArm$CommandScan", name := "isLetter", desc := "(I)Z" } : MethodName) ∈ WG := wg 495 (by decide +kernel) (by decide +kernel)
theorem qw_496 : Cond.code ({ cls := "PlateArm$CommandScan", name := "isLetter", desc := "(I)Z" } : MethodName) prog_4_method_11_code (1 : Nat) (Option.some FieldType.boolean) ∈ WG := wg 496 (by decide +kernel) (by decide +kernel)
theorem qw_497 : Cond.methodLink "PlateArm$CommandScan" (55 : Nat) ({ cls := "PlateArm$CommandScan", name := "takeInWord", desc := "(LPlateArm$CommandText;II)I" } : MethodName) ∈ WG := wg 497 (by decide +kernel) (by decide +kernel)
theorem qw_499 : Cond.instanceMethod ({ cls := "PlateArm$CommandScan", name := "takeInWord", desc := "(LPlateArm$CommandText;II)I" } : MethodName) ∈ WG := wg 499 (by decide +kernel) (by decide +kernel)
theorem qw_500 : Cond.code ({ cls := "PlateArm$CommandScan", name := "takeInWord", desc := "(LPlateArm$CommandText;II)I" } : MethodName) prog_4_method_6_code (4 : Nat) (Option.some FieldType.int) ∈ WG := wg 500 (by decide +kernel) (by decide +kernel)
theorem qw_501 : Cond.methodLink "PlateArm$CommandScan" (43 : Nat) ({ cls := "PlateArm$CommandScan", name := "wordIn", desc := "(LPlateArm$CommandText;II)LPlateArm$Word;" } : MethodName) ∈ WG := wg 501 (by decide +kernel) (by decide +kernel)
theorem qw_502 : Cond.static ({ cls := "PlateArm$CommandScan", name := "wordIn", desc := "(LPlateArm$CommandText;II)LPlateArm$Word;" } : MethodName) ∈ WG := wg 502 (by decide +kernel) (by decide +kernel)
theorem qw_503 : Cond.code ({ cls := "PlateArm$CommandScan", name := "wordIn", desc := "(LPlateArm$CommandText;II)LPlateArm$Word;" } : MethodName) prog_4_method_10_code (4 : Nat) (Option.some (FieldType.object "PlateArm$Word")) ∈ WG := wg 503 (by decide +kernel) (by decide +kernel)
theorem qw_504 : Cond.fieldLink "PlateArm$CommandScan" (83 : Nat) "PlateArm$CommandScan" "WORDS" "[LPlateArm$Word;" ∈ WG := wg 504 (by decide +kernel) (by decide +kernel)
theorem qw_506 : Cond.methodLink "PlateArm$CommandScan" (91 : Nat) ({ cls := "PlateArm$CommandText", name := "holds", desc := "(Ljava/lang/String;II)Z" } : MethodName) ∈ WG := wg 506 (by decide +kernel) (by decide +kernel)
theorem qw_507 : Cond.instanceMethod ({ cls := "PlateArm$CommandText", name := "holds", desc := "(Ljava/lang/String;II)Z" } : MethodName) ∈ WG := wg 507 (by decide +kernel) (by decide +kernel)
theorem qw_508 : Cond.selects "PlateArm$CommandText" ({ cls := "PlateArm$CommandText", name := "holds", desc := "(Ljava/lang/String;II)Z" } : MethodName) ({ cls := "PlateArm$CommandText", name := "holds", desc := "(Ljava/lang/String;II)Z" } : MethodName) ∈ WG := wg 508 (by decide +kernel) (by decide +kernel)
theorem qw_509 : Cond.code ({ cls := "PlateArm$CommandText", name := "holds", desc := "(Ljava/lang/String;II)Z" } : MethodName) prog_5_method_5_code (5 : Nat) (Option.some FieldType.boolean) ∈ WG := wg 509 (by decide +kernel) (by decide +kernel)
theorem qw_520 : Cond.methodLink "PlateArm$CommandText" (28 : Nat) ({ cls := "PlateArm$CommandText", name := "byteAt", desc := "(I)I" } : MethodName) ∈ WG := wg 520 (by decide +kernel) (by decide +kernel)
theorem qw_559 : Cond.methodLink "PlateArm$CommandScan" (59 : Nat) ({ cls := "PlateArm$CommandScan", name := "takeInGap", desc := "(II)I" } : MethodName) ∈ WG := wg 559 (by decide +kernel) (by decide +kernel)
theorem qw_561 : Cond.instanceMethod ({ cls := "PlateArm$CommandScan", name := "takeInGap", desc := "(II)I" } : MethodName) ∈ WG := wg 561 (by decide +kernel) (by decide +kernel)
theorem qw_562 : Cond.code ({ cls := "PlateArm$CommandScan", name := "takeInGap", desc := "(II)I" } : MethodName) prog_4_method_7_code (3 : Nat) (Option.some FieldType.int) ∈ WG := wg 562 (by decide +kernel) (by decide +kernel)
theorem qw_563 : Cond.methodLink "PlateArm$CommandScan" (72 : Nat) ({ cls := "PlateArm$CommandScan", name := "isDigit", desc := "(I)Z" } : MethodName) ∈ WG := wg 563 (by decide +kernel) (by decide +kernel)
theorem qw_564 : Cond.static ({ cls := "PlateArm$CommandScan", name := "isDigit", desc := "(I)Z" } : MethodName) ∈ WG := wg 564 (by decide +kernel) (by decide +kernel)
theorem qw_565 : Cond.code ({ cls := "PlateArm$CommandScan", name := "isDigit", desc := "(I)Z" } : MethodName) prog_4_method_12_code (1 : Nat) (Option.some FieldType.boolean) ∈ WG := wg 565 (by decide +kernel) (by decide +kernel)
theorem qw_566 : Cond.methodLink "PlateArm$CommandScan" (75 : Nat) ({ cls := "PlateArm$CommandScan", name := "takeBehindNumber", desc := "(II)I" } : MethodName) ∈ WG := wg 566 (by decide +kernel) (by decide +kernel)
theorem qw_568 : Cond.instanceMethod ({ cls := "PlateArm$CommandScan", name := "takeBehindNumber", desc := "(II)I" } : MethodName) ∈ WG := wg 568 (by decide +kernel) (by decide +kernel)
theorem qw_569 : Cond.code ({ cls := "PlateArm$CommandScan", name := "takeBehindNumber", desc := "(II)I" } : MethodName) prog_4_method_9_code (3 : Nat) (Option.some FieldType.int) ∈ WG := wg 569 (by decide +kernel) (by decide +kernel)
theorem qw_570 : Cond.methodLink "PlateArm$CommandScan" (62 : Nat) ({ cls := "PlateArm$CommandScan", name := "takeInNumber", desc := "(II)I" } : MethodName) ∈ WG := wg 570 (by decide +kernel) (by decide +kernel)
theorem qw_572 : Cond.instanceMethod ({ cls := "PlateArm$CommandScan", name := "takeInNumber", desc := "(II)I" } : MethodName) ∈ WG := wg 572 (by decide +kernel) (by decide +kernel)
theorem qw_573 : Cond.code ({ cls := "PlateArm$CommandScan", name := "takeInNumber", desc := "(II)I" } : MethodName) prog_4_method_8_code (3 : Nat) (Option.some FieldType.int) ∈ WG := wg 573 (by decide +kernel) (by decide +kernel)
theorem qw_574 : Cond.methodLink "PlateArm" (49 : Nat) ({ cls := "PlateArm", name := "save", desc := "()V" } : MethodName) ∈ WG := wg 574 (by decide +kernel) (by decide +kernel)
theorem qw_576 : Cond.instanceMethod ({ cls := "PlateArm", name := "save", desc := "()V" } : MethodName) ∈ WG := wg 576 (by decide +kernel) (by decide +kernel)
theorem qw_577 : Cond.code ({ cls := "PlateArm", name := "save", desc := "()V" } : MethodName) prog_1_method_38_code (1 : Nat) (Option.none : Option Jvm.ClassFile.FieldType) ∈ WG := wg 577 (by decide +kernel) (by decide +kernel)
theorem qw_578 : Cond.methodLink "PlateArm" (314 : Nat) ({ cls := "PlateArm", name := "dropOldest", desc := "()V" } : MethodName) ∈ WG := wg 578 (by decide +kernel) (by decide +kernel)
theorem qw_580 : Cond.instanceMethod ({ cls := "PlateArm", name := "dropOldest", desc := "()V" } : MethodName) ∈ WG := wg 580 (by decide +kernel) (by decide +kernel)
theorem qw_581 : Cond.code ({ cls := "PlateArm", name := "dropOldest", desc := "()V" } : MethodName) prog_1_method_39_code (3 : Nat) (Option.none : Option Jvm.ClassFile.FieldType) ∈ WG := wg 581 (by decide +kernel) (by decide +kernel)
theorem qw_582 : Cond.methodLink "PlateArm" (241 : Nat) ({ cls := "PlateArm$CommandScan", name := "begin", desc := "()V" } : MethodName) ∈ WG := wg 582 (by decide +kernel) (by decide +kernel)
theorem qw_583 : Cond.methodLink "PlateArm" (244 : Nat) ({ cls := "PlateArm$CommandScan", name := "take", desc := "(LPlateArm$CommandText;I)I" } : MethodName) ∈ WG := wg 583 (by decide +kernel) (by decide +kernel)
theorem qw_584 : Cond.methodLink "PlateArm" (248 : Nat) ({ cls := "PlateArm$CommandText", name := "byteAt", desc := "(I)I" } : MethodName) ∈ WG := wg 584 (by decide +kernel) (by decide +kernel)
theorem qw_585 : Cond.methodLink "PlateArm" (256 : Nat) ({ cls := "PlateArm", name := "carryOut", desc := "(LPlateArm$Word;[I)Z" } : MethodName) ∈ WG := wg 585 (by decide +kernel) (by decide +kernel)
theorem qw_587 : Cond.instanceMethod ({ cls := "PlateArm", name := "carryOut", desc := "(LPlateArm$Word;[I)Z" } : MethodName) ∈ WG := wg 587 (by decide +kernel) (by decide +kernel)
theorem qw_588 : Cond.code ({ cls := "PlateArm", name := "carryOut", desc := "(LPlateArm$Word;[I)Z" } : MethodName) prog_1_method_40_code (3 : Nat) (Option.some FieldType.boolean) ∈ WG := wg 588 (by decide +kernel) (by decide +kernel)
theorem qw_589 : Cond.fieldLink "PlateArm" (317 : Nat) "PlateArm$1" "$SwitchMap$PlateArm$Word" "[I" ∈ WG := wg 589 (by decide +kernel) (by decide +kernel)
theorem qw_597 : Cond.methodLink "PlateArm" (327 : Nat) ({ cls := "PlateArm", name := "carryOutPlate", desc := "(II)Z" } : MethodName) ∈ WG := wg 597 (by decide +kernel) (by decide +kernel)
theorem qw_599 : Cond.instanceMethod ({ cls := "PlateArm", name := "carryOutPlate", desc := "(II)Z" } : MethodName) ∈ WG := wg 599 (by decide +kernel) (by decide +kernel)
theorem qw_600 : Cond.code ({ cls := "PlateArm", name := "carryOutPlate", desc := "(II)Z" } : MethodName) prog_1_method_41_code (3 : Nat) (Option.some FieldType.boolean) ∈ WG := wg 600 (by decide +kernel) (by decide +kernel)
theorem qw_601 : Cond.methodLink "PlateArm" (42 : Nat) ({ cls := "PlateArm", name := "plateFits", desc := "(II)Z" } : MethodName) ∈ WG := wg 601 (by decide +kernel) (by decide +kernel)
theorem qw_602 : Cond.static ({ cls := "PlateArm", name := "plateFits", desc := "(II)Z" } : MethodName) ∈ WG := wg 602 (by decide +kernel) (by decide +kernel)
theorem qw_603 : Cond.code ({ cls := "PlateArm", name := "plateFits", desc := "(II)Z" } : MethodName) prog_1_method_28_code (2 : Nat) (Option.some FieldType.boolean) ∈ WG := wg 603 (by decide +kernel) (by decide +kernel)
theorem qw_604 : Cond.methodLink "PlateArm" (62 : Nat) ({ cls := "PlateArm$State", name := "putIn", desc := "(II)V" } : MethodName) ∈ WG := wg 604 (by decide +kernel) (by decide +kernel)
theorem qw_605 : Cond.instanceMethod ({ cls := "PlateArm$State", name := "putIn", desc := "(II)V" } : MethodName) ∈ WG := wg 605 (by decide +kernel) (by decide +kernel)
theorem qw_606 : Cond.selects "PlateArm$State" ({ cls := "PlateArm$State", name := "putIn", desc := "(II)V" } : MethodName) ({ cls := "PlateArm$State", name := "putIn", desc := "(II)V" } : MethodName) ∈ WG := wg 606 (by decide +kernel) (by decide +kernel)
theorem qw_607 : Cond.code ({ cls := "PlateArm$State", name := "putIn", desc := "(II)V" } : MethodName) prog_8_method_2_code (3 : Nat) (Option.none : Option Jvm.ClassFile.FieldType) ∈ WG := wg 607 (by decide +kernel) (by decide +kernel)
theorem qw_608 : Cond.methodLink "PlateArm$State" (53 : Nat) ({ cls := "PlateArm$Arm", name := "reset", desc := "()V" } : MethodName) ∈ WG := wg 608 (by decide +kernel) (by decide +kernel)
theorem qw_609 : Cond.instanceMethod ({ cls := "PlateArm$Arm", name := "reset", desc := "()V" } : MethodName) ∈ WG := wg 609 (by decide +kernel) (by decide +kernel)
theorem qw_610 : Cond.selects "PlateArm$Arm" ({ cls := "PlateArm$Arm", name := "reset", desc := "()V" } : MethodName) ({ cls := "PlateArm$Arm", name := "reset", desc := "()V" } : MethodName) ∈ WG := wg 610 (by decide +kernel) (by decide +kernel)
theorem qw_611 : Cond.code ({ cls := "PlateArm$Arm", name := "reset", desc := "()V" } : MethodName) prog_3_method_3_code (1 : Nat) (Option.none : Option Jvm.ClassFile.FieldType) ∈ WG := wg 611 (by decide +kernel) (by decide +kernel)
theorem qw_612 : Cond.methodLink "PlateArm$State" (56 : Nat) ({ cls := "PlateArm$Requests", name := "reset", desc := "()V" } : MethodName) ∈ WG := wg 612 (by decide +kernel) (by decide +kernel)
theorem qw_613 : Cond.instanceMethod ({ cls := "PlateArm$Requests", name := "reset", desc := "()V" } : MethodName) ∈ WG := wg 613 (by decide +kernel) (by decide +kernel)
theorem qw_614 : Cond.selects "PlateArm$Requests" ({ cls := "PlateArm$Requests", name := "reset", desc := "()V" } : MethodName) ({ cls := "PlateArm$Requests", name := "reset", desc := "()V" } : MethodName) ∈ WG := wg 614 (by decide +kernel) (by decide +kernel)
theorem qw_615 : Cond.code ({ cls := "PlateArm$Requests", name := "reset", desc := "()V" } : MethodName) prog_7_method_2_code (1 : Nat) (Option.none : Option Jvm.ClassFile.FieldType) ∈ WG := wg 615 (by decide +kernel) (by decide +kernel)
theorem qw_616 : Cond.methodLink "PlateArm$State" (57 : Nat) ({ cls := "PlateArm$Log", name := "reset", desc := "()V" } : MethodName) ∈ WG := wg 616 (by decide +kernel) (by decide +kernel)
theorem qw_617 : Cond.instanceMethod ({ cls := "PlateArm$Log", name := "reset", desc := "()V" } : MethodName) ∈ WG := wg 617 (by decide +kernel) (by decide +kernel)
theorem qw_618 : Cond.selects "PlateArm$Log" ({ cls := "PlateArm$Log", name := "reset", desc := "()V" } : MethodName) ({ cls := "PlateArm$Log", name := "reset", desc := "()V" } : MethodName) ∈ WG := wg 618 (by decide +kernel) (by decide +kernel)
theorem qw_619 : Cond.code ({ cls := "PlateArm$Log", name := "reset", desc := "()V" } : MethodName) prog_6_method_2_code (1 : Nat) (Option.none : Option Jvm.ClassFile.FieldType) ∈ WG := wg 619 (by decide +kernel) (by decide +kernel)
theorem qw_620 : Cond.methodLink "PlateArm$State" (58 : Nat) ({ cls := "PlateArm$Tally", name := "reset", desc := "()V" } : MethodName) ∈ WG := wg 620 (by decide +kernel) (by decide +kernel)
theorem qw_621 : Cond.instanceMethod ({ cls := "PlateArm$Tally", name := "reset", desc := "()V" } : MethodName) ∈ WG := wg 621 (by decide +kernel) (by decide +kernel)
theorem qw_622 : Cond.selects "PlateArm$Tally" ({ cls := "PlateArm$Tally", name := "reset", desc := "()V" } : MethodName) ({ cls := "PlateArm$Tally", name := "reset", desc := "()V" } : MethodName) ∈ WG := wg 622 (by decide +kernel) (by decide +kernel)
theorem qw_623 : Cond.code ({ cls := "PlateArm$Tally", name := "reset", desc := "()V" } : MethodName) prog_9_method_2_code (1 : Nat) (Option.none : Option Jvm.ClassFile.FieldType) ∈ WG := wg 623 (by decide +kernel) (by decide +kernel)
theorem qw_624 : Cond.methodLink "PlateArm" (330 : Nat) ({ cls := "PlateArm", name := "carryOutRead", desc := "(III)Z" } : MethodName) ∈ WG := wg 624 (by decide +kernel) (by decide +kernel)
theorem qw_626 : Cond.instanceMethod ({ cls := "PlateArm", name := "carryOutRead", desc := "(III)Z" } : MethodName) ∈ WG := wg 626 (by decide +kernel) (by decide +kernel)
theorem qw_627 : Cond.code ({ cls := "PlateArm", name := "carryOutRead", desc := "(III)Z" } : MethodName) prog_1_method_42_code (4 : Nat) (Option.some FieldType.boolean) ∈ WG := wg 627 (by decide +kernel) (by decide +kernel)
theorem qw_628 : Cond.methodLink "PlateArm" (66 : Nat) ({ cls := "PlateArm", name := "requestFits", desc := "(III)Z" } : MethodName) ∈ WG := wg 628 (by decide +kernel) (by decide +kernel)
theorem qw_630 : Cond.instanceMethod ({ cls := "PlateArm", name := "requestFits", desc := "(III)Z" } : MethodName) ∈ WG := wg 630 (by decide +kernel) (by decide +kernel)
theorem qw_631 : Cond.code ({ cls := "PlateArm", name := "requestFits", desc := "(III)Z" } : MethodName) prog_1_method_29_code (4 : Nat) (Option.some FieldType.boolean) ∈ WG := wg 631 (by decide +kernel) (by decide +kernel)
theorem qw_632 : Cond.methodLink "PlateArm" (70 : Nat) ({ cls := "PlateArm$Requests", name := "isFull", desc := "()Z" } : MethodName) ∈ WG := wg 632 (by decide +kernel) (by decide +kernel)
theorem qw_633 : Cond.instanceMethod ({ cls := "PlateArm$Requests", name := "isFull", desc := "()Z" } : MethodName) ∈ WG := wg 633 (by decide +kernel) (by decide +kernel)
theorem qw_634 : Cond.selects "PlateArm$Requests" ({ cls := "PlateArm$Requests", name := "isFull", desc := "()Z" } : MethodName) ({ cls := "PlateArm$Requests", name := "isFull", desc := "()Z" } : MethodName) ∈ WG := wg 634 (by decide +kernel) (by decide +kernel)
theorem qw_635 : Cond.code ({ cls := "PlateArm$Requests", name := "isFull", desc := "()Z" } : MethodName) prog_7_method_4_code (1 : Nat) (Option.some FieldType.boolean) ∈ WG := wg 635 (by decide +kernel) (by decide +kernel)
theorem qw_636 : Cond.methodLink "PlateArm" (80 : Nat) ({ cls := "PlateArm$Requests", name := "add", desc := "(IIII)I" } : MethodName) ∈ WG := wg 636 (by decide +kernel) (by decide +kernel)
theorem qw_637 : Cond.instanceMethod ({ cls := "PlateArm$Requests", name := "add", desc := "(IIII)I" } : MethodName) ∈ WG := wg 637 (by decide +kernel) (by decide +kernel)
theorem qw_638 : Cond.selects "PlateArm$Requests" ({ cls := "PlateArm$Requests", name := "add", desc := "(IIII)I" } : MethodName) ({ cls := "PlateArm$Requests", name := "add", desc := "(IIII)I" } : MethodName) ∈ WG := wg 638 (by decide +kernel) (by decide +kernel)
theorem qw_639 : Cond.code ({ cls := "PlateArm$Requests", name := "add", desc := "(IIII)I" } : MethodName) prog_7_method_5_code (5 : Nat) (Option.some FieldType.int) ∈ WG := wg 639 (by decide +kernel) (by decide +kernel)
theorem qw_640 : Cond.methodLink "PlateArm$Requests" (40 : Nat) ({ cls := "PlateArm$Requests", name := "isFull", desc := "()Z" } : MethodName) ∈ WG := wg 640 (by decide +kernel) (by decide +kernel)
theorem qw_641 : Cond.methodLink "PlateArm" (333 : Nat) ({ cls := "PlateArm", name := "carryOutCancel", desc := "(I)Z" } : MethodName) ∈ WG := wg 641 (by decide +kernel) (by decide +kernel)
theorem qw_643 : Cond.instanceMethod ({ cls := "PlateArm", name := "carryOutCancel", desc := "(I)Z" } : MethodName) ∈ WG := wg 643 (by decide +kernel) (by decide +kernel)
theorem qw_644 : Cond.code ({ cls := "PlateArm", name := "carryOutCancel", desc := "(I)Z" } : MethodName) prog_1_method_43_code (3 : Nat) (Option.some FieldType.boolean) ∈ WG := wg 644 (by decide +kernel) (by decide +kernel)
theorem qw_645 : Cond.methodLink "PlateArm" (84 : Nat) ({ cls := "PlateArm$Requests", name := "indexOf", desc := "(I)I" } : MethodName) ∈ WG := wg 645 (by decide +kernel) (by decide +kernel)
theorem qw_646 : Cond.instanceMethod ({ cls := "PlateArm$Requests", name := "indexOf", desc := "(I)I" } : MethodName) ∈ WG := wg 646 (by decide +kernel) (by decide +kernel)
theorem qw_647 : Cond.selects "PlateArm$Requests" ({ cls := "PlateArm$Requests", name := "indexOf", desc := "(I)I" } : MethodName) ({ cls := "PlateArm$Requests", name := "indexOf", desc := "(I)I" } : MethodName) ∈ WG := wg 647 (by decide +kernel) (by decide +kernel)
theorem qw_648 : Cond.code ({ cls := "PlateArm$Requests", name := "indexOf", desc := "(I)I" } : MethodName) prog_7_method_6_code (3 : Nat) (Option.some FieldType.int) ∈ WG := wg 648 (by decide +kernel) (by decide +kernel)
theorem qw_649 : Cond.methodLink "PlateArm" (95 : Nat) ({ cls := "PlateArm$Requests", name := "removeAt", desc := "(I)V" } : MethodName) ∈ WG := wg 649 (by decide +kernel) (by decide +kernel)
theorem qw_650 : Cond.instanceMethod ({ cls := "PlateArm$Requests", name := "removeAt", desc := "(I)V" } : MethodName) ∈ WG := wg 650 (by decide +kernel) (by decide +kernel)
theorem qw_651 : Cond.selects "PlateArm$Requests" ({ cls := "PlateArm$Requests", name := "removeAt", desc := "(I)V" } : MethodName) ({ cls := "PlateArm$Requests", name := "removeAt", desc := "(I)V" } : MethodName) ∈ WG := wg 651 (by decide +kernel) (by decide +kernel)
theorem qw_652 : Cond.code ({ cls := "PlateArm$Requests", name := "removeAt", desc := "(I)V" } : MethodName) prog_7_method_8_code (3 : Nat) (Option.none : Option Jvm.ClassFile.FieldType) ∈ WG := wg 652 (by decide +kernel) (by decide +kernel)
theorem qw_653 : Cond.methodLink "PlateArm$Requests" (44 : Nat) ({ cls := "PlateArm$Requests", name := "move", desc := "(II)V" } : MethodName) ∈ WG := wg 653 (by decide +kernel) (by decide +kernel)
theorem qw_654 : Cond.methodLink "PlateArm" (336 : Nat) ({ cls := "PlateArm", name := "carryOutSet", desc := "(II)Z" } : MethodName) ∈ WG := wg 654 (by decide +kernel) (by decide +kernel)
theorem qw_656 : Cond.instanceMethod ({ cls := "PlateArm", name := "carryOutSet", desc := "(II)Z" } : MethodName) ∈ WG := wg 656 (by decide +kernel) (by decide +kernel)
theorem qw_657 : Cond.code ({ cls := "PlateArm", name := "carryOutSet", desc := "(II)Z" } : MethodName) prog_1_method_44_code (3 : Nat) (Option.some FieldType.boolean) ∈ WG := wg 657 (by decide +kernel) (by decide +kernel)
theorem qw_658 : Cond.methodLink "PlateArm" (99 : Nat) ({ cls := "PlateArm", name := "settingFits", desc := "(II)Z" } : MethodName) ∈ WG := wg 658 (by decide +kernel) (by decide +kernel)
theorem qw_659 : Cond.static ({ cls := "PlateArm", name := "settingFits", desc := "(II)Z" } : MethodName) ∈ WG := wg 659 (by decide +kernel) (by decide +kernel)
theorem qw_660 : Cond.code ({ cls := "PlateArm", name := "settingFits", desc := "(II)Z" } : MethodName) prog_1_method_30_code (2 : Nat) (Option.some FieldType.boolean) ∈ WG := wg 660 (by decide +kernel) (by decide +kernel)
theorem qw_661 : Cond.fieldLink "PlateArm" (291 : Nat) "PlateArm" "LOWEST_SETTING" "[I" ∈ WG := wg 661 (by decide +kernel) (by decide +kernel)
theorem qw_663 : Cond.fieldLink "PlateArm" (294 : Nat) "PlateArm" "HIGHEST_SETTING" "[I" ∈ WG := wg 663 (by decide +kernel) (by decide +kernel)
theorem qw_665 : Cond.methodLink "PlateArm" (339 : Nat) ({ cls := "PlateArm", name := "carryOutTicks", desc := "(I)Z" } : MethodName) ∈ WG := wg 665 (by decide +kernel) (by decide +kernel)
theorem qw_667 : Cond.instanceMethod ({ cls := "PlateArm", name := "carryOutTicks", desc := "(I)Z" } : MethodName) ∈ WG := wg 667 (by decide +kernel) (by decide +kernel)
theorem qw_668 : Cond.code ({ cls := "PlateArm", name := "carryOutTicks", desc := "(I)Z" } : MethodName) prog_1_method_45_code (2 : Nat) (Option.some FieldType.boolean) ∈ WG := wg 668 (by decide +kernel) (by decide +kernel)
theorem qw_669 : Cond.methodLink "PlateArm" (105 : Nat) ({ cls := "PlateArm", name := "ticksFit", desc := "(I)Z" } : MethodName) ∈ WG := wg 669 (by decide +kernel) (by decide +kernel)
theorem qw_670 : Cond.static ({ cls := "PlateArm", name := "ticksFit", desc := "(I)Z" } : MethodName) ∈ WG := wg 670 (by decide +kernel) (by decide +kernel)
theorem qw_671 : Cond.code ({ cls := "PlateArm", name := "ticksFit", desc := "(I)Z" } : MethodName) prog_1_method_31_code (1 : Nat) (Option.some FieldType.boolean) ∈ WG := wg 671 (by decide +kernel) (by decide +kernel)
theorem qw_672 : Cond.methodLink "PlateArm" (109 : Nat) ({ cls := "PlateArm", name := "timeIsLeft", desc := "(I)Z" } : MethodName) ∈ WG := wg 672 (by decide +kernel) (by decide +kernel)
theorem qw_674 : Cond.instanceMethod ({ cls := "PlateArm", name := "timeIsLeft", desc := "(I)Z" } : MethodName) ∈ WG := wg 674 (by decide +kernel) (by decide +kernel)
theorem qw_675 : Cond.code ({ cls := "PlateArm", name := "timeIsLeft", desc := "(I)Z" } : MethodName) prog_1_method_32_code (2 : Nat) (Option.some FieldType.boolean) ∈ WG := wg 675 (by decide +kernel) (by decide +kernel)
theorem qw_676 : Cond.methodLink "PlateArm" (121 : Nat) ({ cls := "PlateArm$State", name := "passTicks", desc := "(I)V" } : MethodName) ∈ WG := wg 676 (by decide +kernel) (by decide +kernel)
theorem qw_677 : Cond.instanceMethod ({ cls := "PlateArm$State", name := "passTicks", desc := "(I)V" } : MethodName) ∈ WG := wg 677 (by decide +kernel) (by decide +kernel)
theorem qw_678 : Cond.selects "PlateArm$State" ({ cls := "PlateArm$State", name := "passTicks", desc := "(I)V" } : MethodName) ({ cls := "PlateArm$State", name := "passTicks", desc := "(I)V" } : MethodName) ∈ WG := wg 678 (by decide +kernel) (by decide +kernel)
theorem qw_679 : Cond.code ({ cls := "PlateArm$State", name := "passTicks", desc := "(I)V" } : MethodName) prog_8_method_5_code (3 : Nat) (Option.none : Option Jvm.ClassFile.FieldType) ∈ WG := wg 679 (by decide +kernel) (by decide +kernel)
theorem qw_684 : Cond.constantLong "PlateArm" (263 : Nat) (1361086 : Int64) ∈ WG := wg 684 (by decide +kernel) (by decide +kernel)
theorem qw_685 : Cond.constantLong "PlateArm" (265 : Nat) (31 : Int64) ∈ WG := wg 685 (by decide +kernel) (by decide +kernel)
theorem qw_686 : Cond.methodLink "PlateArm" (267 : Nat) ({ cls := "PlateArm", name := "whole", desc := "(I)I" } : MethodName) ∈ WG := wg 686 (by decide +kernel) (by decide +kernel)
theorem qw_687 : Cond.instanceMethod ({ cls := "PlateArm", name := "whole", desc := "(I)I" } : MethodName) ∈ WG := wg 687 (by decide +kernel) (by decide +kernel)
theorem qw_688 : Cond.selects "PlateArm" ({ cls := "PlateArm", name := "whole", desc := "(I)I" } : MethodName) ({ cls := "PlateArm", name := "whole", desc := "(I)I" } : MethodName) ∈ WG := wg 688 (by decide +kernel) (by decide +kernel)
theorem qw_689 : Cond.code ({ cls := "PlateArm", name := "whole", desc := "(I)I" } : MethodName) prog_1_method_12_code (2 : Nat) (Option.some FieldType.int) ∈ WG := wg 689 (by decide +kernel) (by decide +kernel)
theorem qw_690 : Cond.classLink "PlateArm" (46 : Nat) "java/lang/IllegalArgumentException" ∈ WG := wg 690 (by decide +kernel) (by decide +kernel)
theorem qw_753 : Cond.methodLink "PlateArm" (270 : Nat) ({ cls := "PlateArm", name := "arm", desc := "(I)I" } : MethodName) ∈ WG := wg 753 (by decide +kernel) (by decide +kernel)
theorem qw_754 : Cond.instanceMethod ({ cls := "PlateArm", name := "arm", desc := "(I)I" } : MethodName) ∈ WG := wg 754 (by decide +kernel) (by decide +kernel)
theorem qw_755 : Cond.selects "PlateArm" ({ cls := "PlateArm", name := "arm", desc := "(I)I" } : MethodName) ({ cls := "PlateArm", name := "arm", desc := "(I)I" } : MethodName) ∈ WG := wg 755 (by decide +kernel) (by decide +kernel)
theorem qw_756 : Cond.code ({ cls := "PlateArm", name := "arm", desc := "(I)I" } : MethodName) prog_1_method_11_code (2 : Nat) (Option.some FieldType.int) ∈ WG := wg 756 (by decide +kernel) (by decide +kernel)
theorem qw_757 : Cond.methodLink "PlateArm" (167 : Nat) ({ cls := "PlateArm$State", name := "sectorUnderArm", desc := "()I" } : MethodName) ∈ WG := wg 757 (by decide +kernel) (by decide +kernel)
theorem qw_758 : Cond.methodLink "PlateArm" (272 : Nat) ({ cls := "PlateArm", name := "mixRequests", desc := "(J)J" } : MethodName) ∈ WG := wg 758 (by decide +kernel) (by decide +kernel)
theorem qw_760 : Cond.instanceMethod ({ cls := "PlateArm", name := "mixRequests", desc := "(J)J" } : MethodName) ∈ WG := wg 760 (by decide +kernel) (by decide +kernel)
theorem qw_761 : Cond.code ({ cls := "PlateArm", name := "mixRequests", desc := "(J)J" } : MethodName) prog_1_method_25_code (7 : Nat) (Option.some FieldType.long) ∈ WG := wg 761 (by decide +kernel) (by decide +kernel)
theorem qw_762 : Cond.methodLink "PlateArm" (132 : Nat) ({ cls := "PlateArm", name := "requestValue", desc := "(II)I" } : MethodName) ∈ WG := wg 762 (by decide +kernel) (by decide +kernel)
theorem qw_764 : Cond.instanceMethod ({ cls := "PlateArm", name := "requestValue", desc := "(II)I" } : MethodName) ∈ WG := wg 764 (by decide +kernel) (by decide +kernel)
theorem qw_765 : Cond.code ({ cls := "PlateArm", name := "requestValue", desc := "(II)I" } : MethodName) prog_1_method_34_code (4 : Nat) (Option.some FieldType.int) ∈ WG := wg 765 (by decide +kernel) (by decide +kernel)
theorem qw_766 : Cond.methodLink "PlateArm" (304 : Nat) ({ cls := "java/lang/Math", name := "abs", desc := "(I)I" } : MethodName) ∈ WG := wg 766 (by decide +kernel) (by decide +kernel)
theorem qw_767 : Cond.methodLink "PlateArm" (276 : Nat) ({ cls := "PlateArm", name := "mixLog", desc := "(J)J" } : MethodName) ∈ WG := wg 767 (by decide +kernel) (by decide +kernel)
theorem qw_769 : Cond.instanceMethod ({ cls := "PlateArm", name := "mixLog", desc := "(J)J" } : MethodName) ∈ WG := wg 769 (by decide +kernel) (by decide +kernel)
theorem qw_770 : Cond.code ({ cls := "PlateArm", name := "mixLog", desc := "(J)J" } : MethodName) prog_1_method_26_code (7 : Nat) (Option.some FieldType.long) ∈ WG := wg 770 (by decide +kernel) (by decide +kernel)
theorem qw_771 : Cond.methodLink "PlateArm" (139 : Nat) ({ cls := "PlateArm$Log", name := "kept", desc := "()I" } : MethodName) ∈ WG := wg 771 (by decide +kernel) (by decide +kernel)
theorem qw_772 : Cond.instanceMethod ({ cls := "PlateArm$Log", name := "kept", desc := "()I" } : MethodName) ∈ WG := wg 772 (by decide +kernel) (by decide +kernel)
theorem qw_773 : Cond.selects "PlateArm$Log" ({ cls := "PlateArm$Log", name := "kept", desc := "()I" } : MethodName) ({ cls := "PlateArm$Log", name := "kept", desc := "()I" } : MethodName) ∈ WG := wg 773 (by decide +kernel) (by decide +kernel)
theorem qw_774 : Cond.code ({ cls := "PlateArm$Log", name := "kept", desc := "()I" } : MethodName) prog_6_method_4_code (1 : Nat) (Option.some FieldType.int) ∈ WG := wg 774 (by decide +kernel) (by decide +kernel)
theorem qw_775 : Cond.methodLink "PlateArm$Log" (25 : Nat) ({ cls := "java/lang/Math", name := "min", desc := "(II)I" } : MethodName) ∈ WG := wg 775 (by decide +kernel) (by decide +kernel)
theorem qw_776 : Cond.methodLink "PlateArm" (142 : Nat) ({ cls := "PlateArm$Log", name := "valueOf", desc := "(II)I" } : MethodName) ∈ WG := wg 776 (by decide +kernel) (by decide +kernel)
theorem qw_777 : Cond.instanceMethod ({ cls := "PlateArm$Log", name := "valueOf", desc := "(II)I" } : MethodName) ∈ WG := wg 777 (by decide +kernel) (by decide +kernel)
theorem qw_778 : Cond.selects "PlateArm$Log" ({ cls := "PlateArm$Log", name := "valueOf", desc := "(II)I" } : MethodName) ({ cls := "PlateArm$Log", name := "valueOf", desc := "(II)I" } : MethodName) ∈ WG := wg 778 (by decide +kernel) (by decide +kernel)
theorem qw_779 : Cond.code ({ cls := "PlateArm$Log", name := "valueOf", desc := "(II)I" } : MethodName) prog_6_method_6_code (3 : Nat) (Option.some FieldType.int) ∈ WG := wg 779 (by decide +kernel) (by decide +kernel)
theorem qw_780 : Cond.methodLink "PlateArm" (279 : Nat) ({ cls := "PlateArm", name := "mixForecasts", desc := "(J)J" } : MethodName) ∈ WG := wg 780 (by decide +kernel) (by decide +kernel)
theorem qw_782 : Cond.instanceMethod ({ cls := "PlateArm", name := "mixForecasts", desc := "(J)J" } : MethodName) ∈ WG := wg 782 (by decide +kernel) (by decide +kernel)
theorem qw_783 : Cond.code ({ cls := "PlateArm", name := "mixForecasts", desc := "(J)J" } : MethodName) prog_1_method_27_code (7 : Nat) (Option.some FieldType.long) ∈ WG := wg 783 (by decide +kernel) (by decide +kernel)
theorem qw_784 : Cond.methodLink "PlateArm" (288 : Nat) ({ cls := "PlateArm", name := "target", desc := "(I)I" } : MethodName) ∈ WG := wg 784 (by decide +kernel) (by decide +kernel)
theorem qw_785 : Cond.instanceMethod ({ cls := "PlateArm", name := "target", desc := "(I)I" } : MethodName) ∈ WG := wg 785 (by decide +kernel) (by decide +kernel)
theorem qw_786 : Cond.selects "PlateArm" ({ cls := "PlateArm", name := "target", desc := "(I)I" } : MethodName) ({ cls := "PlateArm", name := "target", desc := "(I)I" } : MethodName) ∈ WG := wg 786 (by decide +kernel) (by decide +kernel)
theorem qw_787 : Cond.code ({ cls := "PlateArm", name := "target", desc := "(I)I" } : MethodName) prog_1_method_13_code (3 : Nat) (Option.some FieldType.int) ∈ WG := wg 787 (by decide +kernel) (by decide +kernel)
theorem qw_788 : Cond.methodLink "PlateArm" (209 : Nat) ({ cls := "PlateArm", name := "isWay", desc := "(I)Z" } : MethodName) ∈ WG := wg 788 (by decide +kernel) (by decide +kernel)
theorem qw_789 : Cond.static ({ cls := "PlateArm", name := "isWay", desc := "(I)Z" } : MethodName) ∈ WG := wg 789 (by decide +kernel) (by decide +kernel)
theorem qw_790 : Cond.code ({ cls := "PlateArm", name := "isWay", desc := "(I)Z" } : MethodName) prog_1_method_33_code (1 : Nat) (Option.some FieldType.boolean) ∈ WG := wg 790 (by decide +kernel) (by decide +kernel)
theorem qw_791 : Cond.methodLink "PlateArm" (212 : Nat) ({ cls := "PlateArm$State", name := "targetBy", desc := "(I)I" } : MethodName) ∈ WG := wg 791 (by decide +kernel) (by decide +kernel)
theorem qw_792 : Cond.instanceMethod ({ cls := "PlateArm$State", name := "targetBy", desc := "(I)I" } : MethodName) ∈ WG := wg 792 (by decide +kernel) (by decide +kernel)
theorem qw_793 : Cond.selects "PlateArm$State" ({ cls := "PlateArm$State", name := "targetBy", desc := "(I)I" } : MethodName) ({ cls := "PlateArm$State", name := "targetBy", desc := "(I)I" } : MethodName) ∈ WG := wg 793 (by decide +kernel) (by decide +kernel)
theorem qw_794 : Cond.code ({ cls := "PlateArm$State", name := "targetBy", desc := "(I)I" } : MethodName) prog_8_method_8_code (3 : Nat) (Option.some FieldType.int) ∈ WG := wg 794 (by decide +kernel) (by decide +kernel)
theorem qw_795 : Cond.methodLink "PlateArm" (282 : Nat) ({ cls := "PlateArm", name := "heatIn", desc := "(I)I" } : MethodName) ∈ WG := wg 795 (by decide +kernel) (by decide +kernel)
theorem qw_796 : Cond.instanceMethod ({ cls := "PlateArm", name := "heatIn", desc := "(I)I" } : MethodName) ∈ WG := wg 796 (by decide +kernel) (by decide +kernel)
theorem qw_797 : Cond.selects "PlateArm" ({ cls := "PlateArm", name := "heatIn", desc := "(I)I" } : MethodName) ({ cls := "PlateArm", name := "heatIn", desc := "(I)I" } : MethodName) ∈ WG := wg 797 (by decide +kernel) (by decide +kernel)
theorem qw_798 : Cond.code ({ cls := "PlateArm", name := "heatIn", desc := "(I)I" } : MethodName) prog_1_method_17_code (2 : Nat) (Option.some FieldType.int) ∈ WG := wg 798 (by decide +kernel) (by decide +kernel)
theorem qw_799 : Cond.methodLink "PlateArm" (285 : Nat) ({ cls := "PlateArm", name := "widest", desc := "()I" } : MethodName) ∈ WG := wg 799 (by decide +kernel) (by decide +kernel)
theorem qw_816 : Cond.classLink "PlateArm" (74 : Nat) "java/lang/IllegalStateException" ∈ WG := wg 816 (by decide +kernel) (by decide +kernel)
theorem qw_839 : Cond.classLink "PlateArm" (88 : Nat) "java/lang/IndexOutOfBoundsException" ∈ WG := wg 839 (by decide +kernel) (by decide +kernel)
theorem qw_915 : Cond.methodLink "PlateArm" (215 : Nat) ({ cls := "PlateArm$State", name := "tickOfReading", desc := "(I)I" } : MethodName) ∈ WG := wg 915 (by decide +kernel) (by decide +kernel)
theorem qw_916 : Cond.instanceMethod ({ cls := "PlateArm$State", name := "tickOfReading", desc := "(I)I" } : MethodName) ∈ WG := wg 916 (by decide +kernel) (by decide +kernel)
theorem qw_917 : Cond.selects "PlateArm$State" ({ cls := "PlateArm$State", name := "tickOfReading", desc := "(I)I" } : MethodName) ({ cls := "PlateArm$State", name := "tickOfReading", desc := "(I)I" } : MethodName) ∈ WG := wg 917 (by decide +kernel) (by decide +kernel)
theorem qw_918 : Cond.code ({ cls := "PlateArm$State", name := "tickOfReading", desc := "(I)I" } : MethodName) prog_8_method_7_code (3 : Nat) (Option.some FieldType.int) ∈ WG := wg 918 (by decide +kernel) (by decide +kernel)
theorem qw_919 : Cond.methodLink "PlateArm$State" (87 : Nat) ({ cls := "PlateArm$Requests", name := "indexOf", desc := "(I)I" } : MethodName) ∈ WG := wg 919 (by decide +kernel) (by decide +kernel)
theorem qw_938 : Cond.methodLink "PlateArm" (230 : Nat) ({ cls := "PlateArm$State", name := "hindranceOf", desc := "(I)I" } : MethodName) ∈ WG := wg 938 (by decide +kernel) (by decide +kernel)
theorem qw_939 : Cond.instanceMethod ({ cls := "PlateArm$State", name := "hindranceOf", desc := "(I)I" } : MethodName) ∈ WG := wg 939 (by decide +kernel) (by decide +kernel)
theorem qw_940 : Cond.selects "PlateArm$State" ({ cls := "PlateArm$State", name := "hindranceOf", desc := "(I)I" } : MethodName) ({ cls := "PlateArm$State", name := "hindranceOf", desc := "(I)I" } : MethodName) ∈ WG := wg 940 (by decide +kernel) (by decide +kernel)
theorem qw_941 : Cond.code ({ cls := "PlateArm$State", name := "hindranceOf", desc := "(I)I" } : MethodName) prog_8_method_9_code (3 : Nat) (Option.some FieldType.int) ∈ WG := wg 941 (by decide +kernel) (by decide +kernel)
theorem qw_942 : Cond.methodLink "PlateArm$State" (109 : Nat) ({ cls := "PlateArm$State", name := "targetBy", desc := "(I)I" } : MethodName) ∈ WG := wg 942 (by decide +kernel) (by decide +kernel)
theorem qw_950 : Cond.methodLink "PlateArm" (233 : Nat) ({ cls := "PlateArm$CommandText", name := "isFull", desc := "()Z" } : MethodName) ∈ WG := wg 950 (by decide +kernel) (by decide +kernel)
theorem qw_951 : Cond.instanceMethod ({ cls := "PlateArm$CommandText", name := "isFull", desc := "()Z" } : MethodName) ∈ WG := wg 951 (by decide +kernel) (by decide +kernel)
theorem qw_952 : Cond.selects "PlateArm$CommandText" ({ cls := "PlateArm$CommandText", name := "isFull", desc := "()Z" } : MethodName) ({ cls := "PlateArm$CommandText", name := "isFull", desc := "()Z" } : MethodName) ∈ WG := wg 952 (by decide +kernel) (by decide +kernel)
theorem qw_953 : Cond.code ({ cls := "PlateArm$CommandText", name := "isFull", desc := "()Z" } : MethodName) prog_5_method_2_code (1 : Nat) (Option.some FieldType.boolean) ∈ WG := wg 953 (by decide +kernel) (by decide +kernel)
theorem qw_954 : Cond.methodLink "PlateArm" (234 : Nat) ({ cls := "PlateArm$CommandText", name := "append", desc := "(I)I" } : MethodName) ∈ WG := wg 954 (by decide +kernel) (by decide +kernel)
theorem qw_955 : Cond.instanceMethod ({ cls := "PlateArm$CommandText", name := "append", desc := "(I)I" } : MethodName) ∈ WG := wg 955 (by decide +kernel) (by decide +kernel)
theorem qw_956 : Cond.selects "PlateArm$CommandText" ({ cls := "PlateArm$CommandText", name := "append", desc := "(I)I" } : MethodName) ({ cls := "PlateArm$CommandText", name := "append", desc := "(I)I" } : MethodName) ∈ WG := wg 956 (by decide +kernel) (by decide +kernel)
theorem qw_957 : Cond.code ({ cls := "PlateArm$CommandText", name := "append", desc := "(I)I" } : MethodName) prog_5_method_3_code (2 : Nat) (Option.some FieldType.int) ∈ WG := wg 957 (by decide +kernel) (by decide +kernel)
theorem qw_958 : Cond.methodLink "PlateArm$CommandText" (19 : Nat) ({ cls := "PlateArm$CommandText", name := "isFull", desc := "()Z" } : MethodName) ∈ WG := wg 958 (by decide +kernel) (by decide +kernel)
theorem qw_971 : Cond.methodLink "PlateArmModel" (1 : Nat) ({ cls := "java/lang/Object", name := "<init>", desc := "()V" } : MethodName) ∈ WG := wg 971 (by decide +kernel) (by decide +kernel)
theorem qw_972 : Cond.fieldLink "PlateArmModel" (7 : Nat) "PlateArmModel" "s" "[I" ∈ WG := wg 972 (by decide +kernel) (by decide +kernel)
theorem qw_973 : Cond.fieldLink "PlateArmModel" (13 : Nat) "PlateArmModel" "past" "[I" ∈ WG := wg 973 (by decide +kernel) (by decide +kernel)
theorem qw_974 : Cond.fieldLink "PlateArmModel" (16 : Nat) "PlateArmModel" "held" "[I" ∈ WG := wg 974 (by decide +kernel) (by decide +kernel)
theorem qw_975 : Cond.fieldLink "PlateArmModel" (36 : Nat) "PlateArmModel" "pasts" "I" ∈ WG := wg 975 (by decide +kernel) (by decide +kernel)
theorem qw_976 : Cond.fieldLink "PlateArmModel" (32 : Nat) "PlateArmModel" "runs" "Z" ∈ WG := wg 976 (by decide +kernel) (by decide +kernel)
theorem qw_977 : Cond.fieldLink "PlateArmModel" (19 : Nat) "PlateArmModel" "text" "[I" ∈ WG := wg 977 (by decide +kernel) (by decide +kernel)
theorem qw_978 : Cond.fieldLink "PlateArmModel" (125 : Nat) "PlateArmModel" "typed" "I" ∈ WG := wg 978 (by decide +kernel) (by decide +kernel)
theorem qw_979 : Cond.fieldLink "PlateArmModel" (29 : Nat) "PlateArmModel" "refused" "I" ∈ WG := wg 979 (by decide +kernel) (by decide +kernel)
theorem qw_980 : Cond.fieldLink "PlateArmModel" (22 : Nat) "PlateArmModel" "watched" "I" ∈ WG := wg 980 (by decide +kernel) (by decide +kernel)
theorem qw_981 : Cond.fieldLink "PlateArmModel" (68 : Nat) "PlateArmModel" "readAt" "I" ∈ WG := wg 981 (by decide +kernel) (by decide +kernel)
theorem qw_982 : Cond.fieldLink "PlateArmModel" (146 : Nat) "PlateArmModel" "spot" "I" ∈ WG := wg 982 (by decide +kernel) (by decide +kernel)
theorem qw_983 : Cond.fieldLink "PlateArmModel" (162 : Nat) "PlateArmModel" "command" "I" ∈ WG := wg 983 (by decide +kernel) (by decide +kernel)
theorem qw_984 : Cond.fieldLink "PlateArmModel" (26 : Nat) "PlateArmModel" "given" "[I" ∈ WG := wg 984 (by decide +kernel) (by decide +kernel)
theorem qw_985 : Cond.fieldLink "PlateArmModel" (196 : Nat) "PlateArmModel" "hash" "J" ∈ WG := wg 985 (by decide +kernel) (by decide +kernel)
theorem qw_1020 : Cond.instanceMethod ({ cls := "PlateArmModel", name := "plate", desc := "(II)I" } : MethodName) ∈ WG := wg 1020 (by decide +kernel) (by decide +kernel)
theorem qw_1021 : Cond.selects "PlateArmModel" ({ cls := "PlateArmModel", name := "plate", desc := "(II)I" } : MethodName) ({ cls := "PlateArmModel", name := "plate", desc := "(II)I" } : MethodName) ∈ WG := wg 1021 (by decide +kernel) (by decide +kernel)
theorem qw_1022 : Cond.code ({ cls := "PlateArmModel", name := "plate", desc := "(II)I" } : MethodName) prog_12_method_24_code (5 : Nat) (Option.some FieldType.int) ∈ WG := wg 1022 (by decide +kernel) (by decide +kernel)
theorem qw_1023 : Cond.methodLink "PlateArmModel" (90 : Nat) ({ cls := "PlateArmModel", name := "in", desc := "(III)Z" } : MethodName) ∈ WG := wg 1023 (by decide +kernel) (by decide +kernel)
theorem qw_1024 : Cond.static ({ cls := "PlateArmModel", name := "in", desc := "(III)Z" } : MethodName) ∈ WG := wg 1024 (by decide +kernel) (by decide +kernel)
theorem qw_1025 : Cond.code ({ cls := "PlateArmModel", name := "in", desc := "(III)Z" } : MethodName) prog_12_method_3_code (3 : Nat) (Option.some FieldType.boolean) ∈ WG := wg 1025 (by decide +kernel) (by decide +kernel)
theorem qw_1026 : Cond.methodLink "PlateArmModel" (94 : Nat) ({ cls := "PlateArmModel", name := "throwsAt", desc := "(I)Z" } : MethodName) ∈ WG := wg 1026 (by decide +kernel) (by decide +kernel)
theorem qw_1028 : Cond.instanceMethod ({ cls := "PlateArmModel", name := "throwsAt", desc := "(I)Z" } : MethodName) ∈ WG := wg 1028 (by decide +kernel) (by decide +kernel)
theorem qw_1029 : Cond.code ({ cls := "PlateArmModel", name := "throwsAt", desc := "(I)Z" } : MethodName) prog_12_method_4_code (2 : Nat) (Option.some FieldType.boolean) ∈ WG := wg 1029 (by decide +kernel) (by decide +kernel)
theorem qw_1030 : Cond.methodLink "PlateArmModel" (98 : Nat) ({ cls := "PlateArmModel", name := "saves", desc := "()V" } : MethodName) ∈ WG := wg 1030 (by decide +kernel) (by decide +kernel)
theorem qw_1032 : Cond.instanceMethod ({ cls := "PlateArmModel", name := "saves", desc := "()V" } : MethodName) ∈ WG := wg 1032 (by decide +kernel) (by decide +kernel)
theorem qw_1033 : Cond.code ({ cls := "PlateArmModel", name := "saves", desc := "()V" } : MethodName) prog_12_method_5_code (2 : Nat) (Option.none : Option Jvm.ClassFile.FieldType) ∈ WG := wg 1033 (by decide +kernel) (by decide +kernel)
theorem qw_1035 : Cond.instanceMethod ({ cls := "PlateArmModel", name := "request", desc := "(III)I" } : MethodName) ∈ WG := wg 1035 (by decide +kernel) (by decide +kernel)
theorem qw_1036 : Cond.selects "PlateArmModel" ({ cls := "PlateArmModel", name := "request", desc := "(III)I" } : MethodName) ({ cls := "PlateArmModel", name := "request", desc := "(III)I" } : MethodName) ∈ WG := wg 1036 (by decide +kernel) (by decide +kernel)
theorem qw_1037 : Cond.code ({ cls := "PlateArmModel", name := "request", desc := "(III)I" } : MethodName) prog_12_method_25_code (6 : Nat) (Option.some FieldType.int) ∈ WG := wg 1037 (by decide +kernel) (by decide +kernel)
theorem qw_1039 : Cond.instanceMethod ({ cls := "PlateArmModel", name := "cancel", desc := "(I)I" } : MethodName) ∈ WG := wg 1039 (by decide +kernel) (by decide +kernel)
theorem qw_1040 : Cond.selects "PlateArmModel" ({ cls := "PlateArmModel", name := "cancel", desc := "(I)I" } : MethodName) ({ cls := "PlateArmModel", name := "cancel", desc := "(I)I" } : MethodName) ∈ WG := wg 1040 (by decide +kernel) (by decide +kernel)
theorem qw_1041 : Cond.code ({ cls := "PlateArmModel", name := "cancel", desc := "(I)I" } : MethodName) prog_12_method_26_code (4 : Nat) (Option.some FieldType.int) ∈ WG := wg 1041 (by decide +kernel) (by decide +kernel)
theorem qw_1042 : Cond.methodLink "PlateArmModel" (101 : Nat) ({ cls := "PlateArmModel", name := "placeOf", desc := "(I)I" } : MethodName) ∈ WG := wg 1042 (by decide +kernel) (by decide +kernel)
theorem qw_1044 : Cond.instanceMethod ({ cls := "PlateArmModel", name := "placeOf", desc := "(I)I" } : MethodName) ∈ WG := wg 1044 (by decide +kernel) (by decide +kernel)
theorem qw_1045 : Cond.code ({ cls := "PlateArmModel", name := "placeOf", desc := "(I)I" } : MethodName) prog_12_method_9_code (4 : Nat) (Option.some FieldType.int) ∈ WG := wg 1045 (by decide +kernel) (by decide +kernel)
theorem qw_1046 : Cond.methodLink "PlateArmModel" (39 : Nat) ({ cls := "PlateArmModel", name := "of", desc := "(II)I" } : MethodName) ∈ WG := wg 1046 (by decide +kernel) (by decide +kernel)
theorem qw_1048 : Cond.instanceMethod ({ cls := "PlateArmModel", name := "of", desc := "(II)I" } : MethodName) ∈ WG := wg 1048 (by decide +kernel) (by decide +kernel)
theorem qw_1049 : Cond.code ({ cls := "PlateArmModel", name := "of", desc := "(II)I" } : MethodName) prog_12_method_8_code (3 : Nat) (Option.some FieldType.int) ∈ WG := wg 1049 (by decide +kernel) (by decide +kernel)
theorem qw_1050 : Cond.methodLink "PlateArmModel" (75 : Nat) ({ cls := "PlateArmModel", name := "takes", desc := "(I)V" } : MethodName) ∈ WG := wg 1050 (by decide +kernel) (by decide +kernel)
theorem qw_1052 : Cond.instanceMethod ({ cls := "PlateArmModel", name := "takes", desc := "(I)V" } : MethodName) ∈ WG := wg 1052 (by decide +kernel) (by decide +kernel)
theorem qw_1053 : Cond.code ({ cls := "PlateArmModel", name := "takes", desc := "(I)V" } : MethodName) prog_12_method_10_code (3 : Nat) (Option.none : Option Jvm.ClassFile.FieldType) ∈ WG := wg 1053 (by decide +kernel) (by decide +kernel)
theorem qw_1055 : Cond.instanceMethod ({ cls := "PlateArmModel", name := "set", desc := "(II)I" } : MethodName) ∈ WG := wg 1055 (by decide +kernel) (by decide +kernel)
theorem qw_1056 : Cond.selects "PlateArmModel" ({ cls := "PlateArmModel", name := "set", desc := "(II)I" } : MethodName) ({ cls := "PlateArmModel", name := "set", desc := "(II)I" } : MethodName) ∈ WG := wg 1056 (by decide +kernel) (by decide +kernel)
theorem qw_1057 : Cond.code ({ cls := "PlateArmModel", name := "set", desc := "(II)I" } : MethodName) prog_12_method_27_code (5 : Nat) (Option.some FieldType.int) ∈ WG := wg 1057 (by decide +kernel) (by decide +kernel)
theorem qw_1059 : Cond.instanceMethod ({ cls := "PlateArmModel", name := "pass", desc := "(I)I" } : MethodName) ∈ WG := wg 1059 (by decide +kernel) (by decide +kernel)
theorem qw_1060 : Cond.selects "PlateArmModel" ({ cls := "PlateArmModel", name := "pass", desc := "(I)I" } : MethodName) ({ cls := "PlateArmModel", name := "pass", desc := "(I)I" } : MethodName) ∈ WG := wg 1060 (by decide +kernel) (by decide +kernel)
theorem qw_1061 : Cond.code ({ cls := "PlateArmModel", name := "pass", desc := "(I)I" } : MethodName) prog_12_method_28_code (4 : Nat) (Option.some FieldType.int) ∈ WG := wg 1061 (by decide +kernel) (by decide +kernel)
theorem qw_1062 : Cond.methodLink "PlateArmModel" (104 : Nat) ({ cls := "PlateArmModel", name := "ticks", desc := "()V" } : MethodName) ∈ WG := wg 1062 (by decide +kernel) (by decide +kernel)
theorem qw_1064 : Cond.instanceMethod ({ cls := "PlateArmModel", name := "ticks", desc := "()V" } : MethodName) ∈ WG := wg 1064 (by decide +kernel) (by decide +kernel)
theorem qw_1065 : Cond.code ({ cls := "PlateArmModel", name := "ticks", desc := "()V" } : MethodName) prog_12_method_23_code (3 : Nat) (Option.none : Option Jvm.ClassFile.FieldType) ∈ WG := wg 1065 (by decide +kernel) (by decide +kernel)
theorem qw_1066 : Cond.methodLink "PlateArmModel" (78 : Nat) ({ cls := "PlateArmModel", name := "targetBy", desc := "(I)I" } : MethodName) ∈ WG := wg 1066 (by decide +kernel) (by decide +kernel)
theorem qw_1068 : Cond.instanceMethod ({ cls := "PlateArmModel", name := "targetBy", desc := "(I)I" } : MethodName) ∈ WG := wg 1068 (by decide +kernel) (by decide +kernel)
theorem qw_1069 : Cond.code ({ cls := "PlateArmModel", name := "targetBy", desc := "(I)I" } : MethodName) prog_12_method_17_code (2 : Nat) (Option.some FieldType.int) ∈ WG := wg 1069 (by decide +kernel) (by decide +kernel)
theorem qw_1070 : Cond.methodLink "PlateArmModel" (57 : Nat) ({ cls := "PlateArmModel", name := "sweeping", desc := "()I" } : MethodName) ∈ WG := wg 1070 (by decide +kernel) (by decide +kernel)
theorem qw_1072 : Cond.instanceMethod ({ cls := "PlateArmModel", name := "sweeping", desc := "()I" } : MethodName) ∈ WG := wg 1072 (by decide +kernel) (by decide +kernel)
theorem qw_1073 : Cond.code ({ cls := "PlateArmModel", name := "sweeping", desc := "()I" } : MethodName) prog_12_method_16_code (2 : Nat) (Option.some FieldType.int) ∈ WG := wg 1073 (by decide +kernel) (by decide +kernel)
theorem qw_1074 : Cond.methodLink "PlateArmModel" (54 : Nat) ({ cls := "PlateArmModel", name := "nearest", desc := "(I)I" } : MethodName) ∈ WG := wg 1074 (by decide +kernel) (by decide +kernel)
theorem qw_1076 : Cond.instanceMethod ({ cls := "PlateArmModel", name := "nearest", desc := "(I)I" } : MethodName) ∈ WG := wg 1076 (by decide +kernel) (by decide +kernel)
theorem qw_1077 : Cond.code ({ cls := "PlateArmModel", name := "nearest", desc := "(I)I" } : MethodName) prog_12_method_14_code (5 : Nat) (Option.some FieldType.int) ∈ WG := wg 1077 (by decide +kernel) (by decide +kernel)
theorem qw_1078 : Cond.methodLink "PlateArmModel" (47 : Nat) ({ cls := "PlateArmModel", name := "isAhead", desc := "(II)Z" } : MethodName) ∈ WG := wg 1078 (by decide +kernel) (by decide +kernel)
theorem qw_1080 : Cond.instanceMethod ({ cls := "PlateArmModel", name := "isAhead", desc := "(II)Z" } : MethodName) ∈ WG := wg 1080 (by decide +kernel) (by decide +kernel)
theorem qw_1081 : Cond.code ({ cls := "PlateArmModel", name := "isAhead", desc := "(II)Z" } : MethodName) prog_12_method_13_code (3 : Nat) (Option.some FieldType.boolean) ∈ WG := wg 1081 (by decide +kernel) (by decide +kernel)
theorem qw_1082 : Cond.methodLink "PlateArmModel" (51 : Nat) ({ cls := "PlateArmModel", name := "far", desc := "(I)I" } : MethodName) ∈ WG := wg 1082 (by decide +kernel) (by decide +kernel)
theorem qw_1084 : Cond.instanceMethod ({ cls := "PlateArmModel", name := "far", desc := "(I)I" } : MethodName) ∈ WG := wg 1084 (by decide +kernel) (by decide +kernel)
theorem qw_1085 : Cond.code ({ cls := "PlateArmModel", name := "far", desc := "(I)I" } : MethodName) prog_12_method_12_code (2 : Nat) (Option.some FieldType.int) ∈ WG := wg 1085 (by decide +kernel) (by decide +kernel)
theorem qw_1086 : Cond.methodLink "PlateArmModel" (43 : Nat) ({ cls := "PlateArmModel", name := "size", desc := "(I)I" } : MethodName) ∈ WG := wg 1086 (by decide +kernel) (by decide +kernel)
theorem qw_1087 : Cond.static ({ cls := "PlateArmModel", name := "size", desc := "(I)I" } : MethodName) ∈ WG := wg 1087 (by decide +kernel) (by decide +kernel)
theorem qw_1088 : Cond.code ({ cls := "PlateArmModel", name := "size", desc := "(I)I" } : MethodName) prog_12_method_11_code (1 : Nat) (Option.some FieldType.int) ∈ WG := wg 1088 (by decide +kernel) (by decide +kernel)
theorem qw_1089 : Cond.methodLink "PlateArmModel" (61 : Nat) ({ cls := "PlateArmModel", name := "earliest", desc := "()I" } : MethodName) ∈ WG := wg 1089 (by decide +kernel) (by decide +kernel)
theorem qw_1091 : Cond.instanceMethod ({ cls := "PlateArmModel", name := "earliest", desc := "()I" } : MethodName) ∈ WG := wg 1091 (by decide +kernel) (by decide +kernel)
theorem qw_1092 : Cond.code ({ cls := "PlateArmModel", name := "earliest", desc := "()I" } : MethodName) prog_12_method_15_code (3 : Nat) (Option.some FieldType.int) ∈ WG := wg 1092 (by decide +kernel) (by decide +kernel)
theorem qw_1093 : Cond.methodLink "PlateArmModel" (81 : Nat) ({ cls := "PlateArmModel", name := "moves", desc := "(I)V" } : MethodName) ∈ WG := wg 1093 (by decide +kernel) (by decide +kernel)
theorem qw_1095 : Cond.instanceMethod ({ cls := "PlateArmModel", name := "moves", desc := "(I)V" } : MethodName) ∈ WG := wg 1095 (by decide +kernel) (by decide +kernel)
theorem qw_1096 : Cond.code ({ cls := "PlateArmModel", name := "moves", desc := "(I)V" } : MethodName) prog_12_method_19_code (3 : Nat) (Option.none : Option Jvm.ClassFile.FieldType) ∈ WG := wg 1096 (by decide +kernel) (by decide +kernel)
theorem qw_1097 : Cond.methodLink "PlateArmModel" (64 : Nat) ({ cls := "PlateArmModel", name := "steps", desc := "(II)V" } : MethodName) ∈ WG := wg 1097 (by decide +kernel) (by decide +kernel)
theorem qw_1099 : Cond.instanceMethod ({ cls := "PlateArmModel", name := "steps", desc := "(II)V" } : MethodName) ∈ WG := wg 1099 (by decide +kernel) (by decide +kernel)
theorem qw_1100 : Cond.code ({ cls := "PlateArmModel", name := "steps", desc := "(II)V" } : MethodName) prog_12_method_18_code (3 : Nat) (Option.none : Option Jvm.ClassFile.FieldType) ∈ WG := wg 1100 (by decide +kernel) (by decide +kernel)
theorem qw_1101 : Cond.methodLink "PlateArmModel" (84 : Nat) ({ cls := "PlateArmModel", name := "reads", desc := "()V" } : MethodName) ∈ WG := wg 1101 (by decide +kernel) (by decide +kernel)
theorem qw_1103 : Cond.instanceMethod ({ cls := "PlateArmModel", name := "reads", desc := "()V" } : MethodName) ∈ WG := wg 1103 (by decide +kernel) (by decide +kernel)
theorem qw_1104 : Cond.code ({ cls := "PlateArmModel", name := "reads", desc := "()V" } : MethodName) prog_12_method_21_code (2 : Nat) (Option.none : Option Jvm.ClassFile.FieldType) ∈ WG := wg 1104 (by decide +kernel) (by decide +kernel)
theorem qw_1105 : Cond.methodLink "PlateArmModel" (71 : Nat) ({ cls := "PlateArmModel", name := "logs", desc := "(I)V" } : MethodName) ∈ WG := wg 1105 (by decide +kernel) (by decide +kernel)
theorem qw_1107 : Cond.instanceMethod ({ cls := "PlateArmModel", name := "logs", desc := "(I)V" } : MethodName) ∈ WG := wg 1107 (by decide +kernel) (by decide +kernel)
theorem qw_1108 : Cond.code ({ cls := "PlateArmModel", name := "logs", desc := "(I)V" } : MethodName) prog_12_method_20_code (3 : Nat) (Option.none : Option Jvm.ClassFile.FieldType) ∈ WG := wg 1108 (by decide +kernel) (by decide +kernel)
theorem qw_1109 : Cond.methodLink "PlateArmModel" (87 : Nat) ({ cls := "PlateArmModel", name := "givesUp", desc := "()V" } : MethodName) ∈ WG := wg 1109 (by decide +kernel) (by decide +kernel)
theorem qw_1111 : Cond.instanceMethod ({ cls := "PlateArmModel", name := "givesUp", desc := "()V" } : MethodName) ∈ WG := wg 1111 (by decide +kernel) (by decide +kernel)
theorem qw_1112 : Cond.code ({ cls := "PlateArmModel", name := "givesUp", desc := "()V" } : MethodName) prog_12_method_22_code (2 : Nat) (Option.none : Option Jvm.ClassFile.FieldType) ∈ WG := wg 1112 (by decide +kernel) (by decide +kernel)
theorem qw_1117 : Cond.methodLink "PlateArmModel" (107 : Nat) ({ cls := "PlateArmModel", name := "holds", desc := "()V" } : MethodName) ∈ WG := wg 1117 (by decide +kernel) (by decide +kernel)
theorem qw_1119 : Cond.instanceMethod ({ cls := "PlateArmModel", name := "holds", desc := "()V" } : MethodName) ∈ WG := wg 1119 (by decide +kernel) (by decide +kernel)
theorem qw_1120 : Cond.code ({ cls := "PlateArmModel", name := "holds", desc := "()V" } : MethodName) prog_12_method_6_code (2 : Nat) (Option.none : Option Jvm.ClassFile.FieldType) ∈ WG := wg 1120 (by decide +kernel) (by decide +kernel)
theorem qw_1121 : Cond.methodLink "PlateArmModel" (110 : Nat) ({ cls := "PlateArmModel", name := "finishes", desc := "()I" } : MethodName) ∈ WG := wg 1121 (by decide +kernel) (by decide +kernel)
theorem qw_1123 : Cond.instanceMethod ({ cls := "PlateArmModel", name := "finishes", desc := "()I" } : MethodName) ∈ WG := wg 1123 (by decide +kernel) (by decide +kernel)
theorem qw_1124 : Cond.code ({ cls := "PlateArmModel", name := "finishes", desc := "()I" } : MethodName) prog_12_method_29_code (2 : Nat) (Option.some FieldType.int) ∈ WG := wg 1124 (by decide +kernel) (by decide +kernel)
theorem qw_1125 : Cond.methodLink "PlateArmModel" (113 : Nat) ({ cls := "PlateArmModel", name := "lets", desc := "()V" } : MethodName) ∈ WG := wg 1125 (by decide +kernel) (by decide +kernel)
theorem qw_1127 : Cond.instanceMethod ({ cls := "PlateArmModel", name := "lets", desc := "()V" } : MethodName) ∈ WG := wg 1127 (by decide +kernel) (by decide +kernel)
theorem qw_1128 : Cond.code ({ cls := "PlateArmModel", name := "lets", desc := "()V" } : MethodName) prog_12_method_7_code (2 : Nat) (Option.none : Option Jvm.ClassFile.FieldType) ∈ WG := wg 1128 (by decide +kernel) (by decide +kernel)
theorem qw_1133 : Cond.methodLink "PlateArmModel" (116 : Nat) ({ cls := "PlateArmModel", name := "told", desc := "(II)I" } : MethodName) ∈ WG := wg 1133 (by decide +kernel) (by decide +kernel)
theorem qw_1135 : Cond.instanceMethod ({ cls := "PlateArmModel", name := "told", desc := "(II)I" } : MethodName) ∈ WG := wg 1135 (by decide +kernel) (by decide +kernel)
theorem qw_1136 : Cond.code ({ cls := "PlateArmModel", name := "told", desc := "(II)I" } : MethodName) prog_12_method_31_code (3 : Nat) (Option.some FieldType.int) ∈ WG := wg 1136 (by decide +kernel) (by decide +kernel)
theorem qw_1145 : Cond.methodLink "PlateArmModel" (119 : Nat) ({ cls := "PlateArmModel", name := "logOf", desc := "(II)I" } : MethodName) ∈ WG := wg 1145 (by decide +kernel) (by decide +kernel)
theorem qw_1147 : Cond.instanceMethod ({ cls := "PlateArmModel", name := "logOf", desc := "(II)I" } : MethodName) ∈ WG := wg 1147 (by decide +kernel) (by decide +kernel)
theorem qw_1148 : Cond.code ({ cls := "PlateArmModel", name := "logOf", desc := "(II)I" } : MethodName) prog_12_method_34_code (3 : Nat) (Option.some FieldType.int) ∈ WG := wg 1148 (by decide +kernel) (by decide +kernel)
theorem qw_1153 : Cond.methodLink "PlateArmModel" (122 : Nat) ({ cls := "PlateArmModel", name := "armOf", desc := "(I)I" } : MethodName) ∈ WG := wg 1153 (by decide +kernel) (by decide +kernel)
theorem qw_1155 : Cond.instanceMethod ({ cls := "PlateArmModel", name := "armOf", desc := "(I)I" } : MethodName) ∈ WG := wg 1155 (by decide +kernel) (by decide +kernel)
theorem qw_1156 : Cond.code ({ cls := "PlateArmModel", name := "armOf", desc := "(I)I" } : MethodName) prog_12_method_36_code (2 : Nat) (Option.some FieldType.int) ∈ WG := wg 1156 (by decide +kernel) (by decide +kernel)
theorem qw_1161 : Cond.methodLink "PlateArmModel" (128 : Nat) ({ cls := "PlateArmModel", name := "wholeOf", desc := "(I)I" } : MethodName) ∈ WG := wg 1161 (by decide +kernel) (by decide +kernel)
theorem qw_1163 : Cond.instanceMethod ({ cls := "PlateArmModel", name := "wholeOf", desc := "(I)I" } : MethodName) ∈ WG := wg 1163 (by decide +kernel) (by decide +kernel)
theorem qw_1164 : Cond.code ({ cls := "PlateArmModel", name := "wholeOf", desc := "(I)I" } : MethodName) prog_12_method_38_code (2 : Nat) (Option.some FieldType.int) ∈ WG := wg 1164 (by decide +kernel) (by decide +kernel)
theorem qw_1169 : Cond.methodLink "PlateArmModel" (131 : Nat) ({ cls := "PlateArmModel", name := "numberOf", desc := "(I)I" } : MethodName) ∈ WG := wg 1169 (by decide +kernel) (by decide +kernel)
theorem qw_1171 : Cond.instanceMethod ({ cls := "PlateArmModel", name := "numberOf", desc := "(I)I" } : MethodName) ∈ WG := wg 1171 (by decide +kernel) (by decide +kernel)
theorem qw_1172 : Cond.code ({ cls := "PlateArmModel", name := "numberOf", desc := "(I)I" } : MethodName) prog_12_method_40_code (2 : Nat) (Option.some FieldType.int) ∈ WG := wg 1172 (by decide +kernel) (by decide +kernel)
theorem qw_1181 : Cond.methodLink "PlateArmModel" (134 : Nat) ({ cls := "PlateArmModel", name := "valueBy", desc := "(II)I" } : MethodName) ∈ WG := wg 1181 (by decide +kernel) (by decide +kernel)
theorem qw_1183 : Cond.instanceMethod ({ cls := "PlateArmModel", name := "valueBy", desc := "(II)I" } : MethodName) ∈ WG := wg 1183 (by decide +kernel) (by decide +kernel)
theorem qw_1184 : Cond.code ({ cls := "PlateArmModel", name := "valueBy", desc := "(II)I" } : MethodName) prog_12_method_43_code (6 : Nat) (Option.some FieldType.int) ∈ WG := wg 1184 (by decide +kernel) (by decide +kernel)
theorem qw_1189 : Cond.methodLink "PlateArmModel" (137 : Nat) ({ cls := "PlateArmModel", name := "best", desc := "()I" } : MethodName) ∈ WG := wg 1189 (by decide +kernel) (by decide +kernel)
theorem qw_1191 : Cond.instanceMethod ({ cls := "PlateArmModel", name := "best", desc := "()I" } : MethodName) ∈ WG := wg 1191 (by decide +kernel) (by decide +kernel)
theorem qw_1192 : Cond.code ({ cls := "PlateArmModel", name := "best", desc := "()I" } : MethodName) prog_12_method_45_code (3 : Nat) (Option.some FieldType.int) ∈ WG := wg 1192 (by decide +kernel) (by decide +kernel)
theorem qw_1197 : Cond.methodLink "PlateArmModel" (140 : Nat) ({ cls := "PlateArmModel", name := "heatBehind", desc := "(I)I" } : MethodName) ∈ WG := wg 1197 (by decide +kernel) (by decide +kernel)
theorem qw_1199 : Cond.instanceMethod ({ cls := "PlateArmModel", name := "heatBehind", desc := "(I)I" } : MethodName) ∈ WG := wg 1199 (by decide +kernel) (by decide +kernel)
theorem qw_1200 : Cond.code ({ cls := "PlateArmModel", name := "heatBehind", desc := "(I)I" } : MethodName) prog_12_method_47_code (3 : Nat) (Option.some FieldType.int) ∈ WG := wg 1200 (by decide +kernel) (by decide +kernel)
theorem qw_1205 : Cond.methodLink "PlateArmModel" (143 : Nat) ({ cls := "PlateArmModel", name := "widestNow", desc := "()I" } : MethodName) ∈ WG := wg 1205 (by decide +kernel) (by decide +kernel)
theorem qw_1207 : Cond.instanceMethod ({ cls := "PlateArmModel", name := "widestNow", desc := "()I" } : MethodName) ∈ WG := wg 1207 (by decide +kernel) (by decide +kernel)
theorem qw_1208 : Cond.code ({ cls := "PlateArmModel", name := "widestNow", desc := "()I" } : MethodName) prog_12_method_49_code (5 : Nat) (Option.some FieldType.int) ∈ WG := wg 1208 (by decide +kernel) (by decide +kernel)
theorem qw_1225 : Cond.methodLink "PlateArmModel" (188 : Nat) ({ cls := "PlateArmModel", name := "fault", desc := "()I" } : MethodName) ∈ WG := wg 1225 (by decide +kernel) (by decide +kernel)
theorem qw_1227 : Cond.instanceMethod ({ cls := "PlateArmModel", name := "fault", desc := "()I" } : MethodName) ∈ WG := wg 1227 (by decide +kernel) (by decide +kernel)
theorem qw_1228 : Cond.code ({ cls := "PlateArmModel", name := "fault", desc := "()I" } : MethodName) prog_12_method_60_code (2 : Nat) (Option.some FieldType.int) ∈ WG := wg 1228 (by decide +kernel) (by decide +kernel)
theorem qw_1229 : Cond.methodLink "PlateArmModel" (156 : Nat) ({ cls := "PlateArmModel", name := "skips", desc := "()V" } : MethodName) ∈ WG := wg 1229 (by decide +kernel) (by decide +kernel)
theorem qw_1231 : Cond.instanceMethod ({ cls := "PlateArmModel", name := "skips", desc := "()V" } : MethodName) ∈ WG := wg 1231 (by decide +kernel) (by decide +kernel)
theorem qw_1232 : Cond.code ({ cls := "PlateArmModel", name := "skips", desc := "()V" } : MethodName) prog_12_method_55_code (1 : Nat) (Option.none : Option Jvm.ClassFile.FieldType) ∈ WG := wg 1232 (by decide +kernel) (by decide +kernel)
theorem qw_1233 : Cond.methodLink "PlateArmModel" (149 : Nat) ({ cls := "PlateArmModel", name := "isAt", desc := "(II)Z" } : MethodName) ∈ WG := wg 1233 (by decide +kernel) (by decide +kernel)
theorem qw_1235 : Cond.instanceMethod ({ cls := "PlateArmModel", name := "isAt", desc := "(II)Z" } : MethodName) ∈ WG := wg 1235 (by decide +kernel) (by decide +kernel)
theorem qw_1236 : Cond.code ({ cls := "PlateArmModel", name := "isAt", desc := "(II)Z" } : MethodName) prog_12_method_54_code (3 : Nat) (Option.some FieldType.boolean) ∈ WG := wg 1236 (by decide +kernel) (by decide +kernel)
theorem qw_1237 : Cond.methodLink "PlateArmModel" (168 : Nat) ({ cls := "PlateArmModel", name := "readsOne", desc := "()Z" } : MethodName) ∈ WG := wg 1237 (by decide +kernel) (by decide +kernel)
theorem qw_1239 : Cond.instanceMethod ({ cls := "PlateArmModel", name := "readsOne", desc := "()Z" } : MethodName) ∈ WG := wg 1239 (by decide +kernel) (by decide +kernel)
theorem qw_1240 : Cond.code ({ cls := "PlateArmModel", name := "readsOne", desc := "()Z" } : MethodName) prog_12_method_59_code (4 : Nat) (Option.some FieldType.boolean) ∈ WG := wg 1240 (by decide +kernel) (by decide +kernel)
theorem qw_1241 : Cond.methodLink "PlateArmModel" (159 : Nat) ({ cls := "PlateArmModel", name := "commandAt", desc := "(I)I" } : MethodName) ∈ WG := wg 1241 (by decide +kernel) (by decide +kernel)
theorem qw_1243 : Cond.instanceMethod ({ cls := "PlateArmModel", name := "commandAt", desc := "(I)I" } : MethodName) ∈ WG := wg 1243 (by decide +kernel) (by decide +kernel)
theorem qw_1244 : Cond.code ({ cls := "PlateArmModel", name := "commandAt", desc := "(I)I" } : MethodName) prog_12_method_57_code (2 : Nat) (Option.some FieldType.int) ∈ WG := wg 1244 (by decide +kernel) (by decide +kernel)
theorem qw_1245 : Cond.methodLink "PlateArmModel" (152 : Nat) ({ cls := "PlateArmModel", name := "isWord", desc := "(IIIIIII)Z" } : MethodName) ∈ WG := wg 1245 (by decide +kernel) (by decide +kernel)
theorem qw_1247 : Cond.instanceMethod ({ cls := "PlateArmModel", name := "isWord", desc := "(IIIIIII)Z" } : MethodName) ∈ WG := wg 1247 (by decide +kernel) (by decide +kernel)
theorem qw_1248 : Cond.code ({ cls := "PlateArmModel", name := "isWord", desc := "(IIIIIII)Z" } : MethodName) prog_12_method_56_code (10 : Nat) (Option.some FieldType.boolean) ∈ WG := wg 1248 (by decide +kernel) (by decide +kernel)
theorem qw_1249 : Cond.methodLink "PlateArmModel" (165 : Nat) ({ cls := "PlateArmModel", name := "number", desc := "(I)Z" } : MethodName) ∈ WG := wg 1249 (by decide +kernel) (by decide +kernel)
theorem qw_1251 : Cond.instanceMethod ({ cls := "PlateArmModel", name := "number", desc := "(I)Z" } : MethodName) ∈ WG := wg 1251 (by decide +kernel) (by decide +kernel)
theorem qw_1252 : Cond.code ({ cls := "PlateArmModel", name := "number", desc := "(I)Z" } : MethodName) prog_12_method_58_code (3 : Nat) (Option.some FieldType.boolean) ∈ WG := wg 1252 (by decide +kernel) (by decide +kernel)
theorem qw_1253 : Cond.methodLink "PlateArmModel" (191 : Nat) ({ cls := "PlateArmModel", name := "does", desc := "()V" } : MethodName) ∈ WG := wg 1253 (by decide +kernel) (by decide +kernel)
theorem qw_1255 : Cond.instanceMethod ({ cls := "PlateArmModel", name := "does", desc := "()V" } : MethodName) ∈ WG := wg 1255 (by decide +kernel) (by decide +kernel)
theorem qw_1256 : Cond.code ({ cls := "PlateArmModel", name := "does", desc := "()V" } : MethodName) prog_12_method_61_code (1 : Nat) (Option.none : Option Jvm.ClassFile.FieldType) ∈ WG := wg 1256 (by decide +kernel) (by decide +kernel)
theorem qw_1257 : Cond.methodLink "PlateArmModel" (172 : Nat) ({ cls := "PlateArmModel", name := "plate", desc := "(II)I" } : MethodName) ∈ WG := wg 1257 (by decide +kernel) (by decide +kernel)
theorem qw_1258 : Cond.methodLink "PlateArmModel" (175 : Nat) ({ cls := "PlateArmModel", name := "request", desc := "(III)I" } : MethodName) ∈ WG := wg 1258 (by decide +kernel) (by decide +kernel)
theorem qw_1259 : Cond.methodLink "PlateArmModel" (179 : Nat) ({ cls := "PlateArmModel", name := "cancel", desc := "(I)I" } : MethodName) ∈ WG := wg 1259 (by decide +kernel) (by decide +kernel)
theorem qw_1260 : Cond.methodLink "PlateArmModel" (182 : Nat) ({ cls := "PlateArmModel", name := "set", desc := "(II)I" } : MethodName) ∈ WG := wg 1260 (by decide +kernel) (by decide +kernel)
theorem qw_1261 : Cond.methodLink "PlateArmModel" (185 : Nat) ({ cls := "PlateArmModel", name := "pass", desc := "(I)I" } : MethodName) ∈ WG := wg 1261 (by decide +kernel) (by decide +kernel)
theorem qw_1270 : Cond.constantLong "PlateArmModel" (200 : Nat) (43906 : Int64) ∈ WG := wg 1270 (by decide +kernel) (by decide +kernel)
theorem qw_1271 : Cond.methodLink "PlateArmModel" (202 : Nat) ({ cls := "PlateArmModel", name := "say", desc := "(I)V" } : MethodName) ∈ WG := wg 1271 (by decide +kernel) (by decide +kernel)
theorem qw_1273 : Cond.instanceMethod ({ cls := "PlateArmModel", name := "say", desc := "(I)V" } : MethodName) ∈ WG := wg 1273 (by decide +kernel) (by decide +kernel)
theorem qw_1274 : Cond.code ({ cls := "PlateArmModel", name := "say", desc := "(I)V" } : MethodName) prog_12_method_64_code (2 : Nat) (Option.none : Option Jvm.ClassFile.FieldType) ∈ WG := wg 1274 (by decide +kernel) (by decide +kernel)
theorem qw_1275 : Cond.constantLong "PlateArmModel" (194 : Nat) (31 : Int64) ∈ WG := wg 1275 (by decide +kernel) (by decide +kernel)
theorem qw_1278 : Cond.fieldLink "PlateArm$CommandScan" (87 : Nat) "PlateArm$Word" "letters" "Ljava/lang/String;" ∈ WG := wg 1278 (by decide +kernel) (by decide +kernel)
theorem qw_1281 : Cond.fieldLink "PlateArm$CommandScan" (78 : Nat) "PlateArm$Word" "numbers" "I" ∈ WG := wg 1281 (by decide +kernel) (by decide +kernel)
theorem inw_0 : ∀ w ∈ u_ws RX1 TX1 5, w ∈ lw_tbl := fun w h => (goodIn_r (big := lw_tbl) (u_ws RX1 TX1 5) [130, 132, 134, 136, 138] (by decide +kernel) (by decide +kernel) w h).1
theorem inw_1 : ∀ w ∈ u_ws RX2 TX2 6, w ∈ lw_tbl := fun w h => (goodIn_r (big := lw_tbl) (u_ws RX2 TX2 6) [306, 308, 310, 312, 314, 316] (by decide +kernel) (by decide +kernel) w h).1
theorem inw_2 : ∀ w ∈ u_ws RX3 TX3 2, w ∈ lw_tbl := fun w h => (goodIn_r (big := lw_tbl) (u_ws RX3 TX3 2) [284, 286] (by decide +kernel) (by decide +kernel) w h).1
theorem inw_3 : ∀ w ∈ u_ws RX4 TX4 2, w ∈ lw_tbl := fun w h => (goodIn_r (big := lw_tbl) (u_ws RX4 TX4 2) [191, 193] (by decide +kernel) (by decide +kernel) w h).1
theorem inw_4 : ∀ w ∈ u_ws RX5 TX5 7, w ∈ lw_tbl := fun w h => (goodIn_r (big := lw_tbl) (u_ws RX5 TX5 7) [167, 169, 171, 173, 175, 177, 179] (by decide +kernel) (by decide +kernel) w h).1
theorem inw_5 : ∀ w ∈ u_ws RX6 TX6 8, w ∈ lw_tbl := fun w h => (goodIn_r (big := lw_tbl) (u_ws RX6 TX6 8) [254, 256, 258, 260, 262, 264, 266, 268] (by decide +kernel) (by decide +kernel) w h).1
theorem inw_6 : ∀ w ∈ u_ws RX7 TX7 7, w ∈ lw_tbl := fun w h => (goodIn_r (big := lw_tbl) (u_ws RX7 TX7 7) [223, 225, 227, 229, 231, 233, 235] (by decide +kernel) (by decide +kernel) w h).1
theorem inw_7 : ∀ w ∈ u_ws RX9 TX9 7, w ∈ lw_tbl := fun w h => (goodIn_r (big := lw_tbl) (u_ws RX9 TX9 7) [326, 328, 330, 332, 334, 336, 338] (by decide +kernel) (by decide +kernel) w h).1
theorem inw_8 : ∀ w ∈ u_ws RX10 TX10 14, w ∈ lw_tbl := fun w h => (goodIn_r (big := lw_tbl) (u_ws RX10 TX10 14) [986, 988, 990, 992, 994, 996, 998, 1000, 1002, 1004, 1006, 1008, 1010, 1012] (by decide +kernel) (by decide +kernel) w h).1
end
section
/-! ===== the abstract worlds: cells with local ids ===== -/
abbrev XCn : Type := (Nat → Int32) ⊕ (Nat → Int64) ⊕ (Nat → UInt32) ⊕ (Nat → UInt64) ⊕ (Nat → Option Nat)
abbrev AO : Type := (Nat × vp_A) ⊕ (Nat × List Value)
abbrev AM : Type := List AO
abbrev AL : Type := List (Option Value)
abbrev AB : Type := Nat × Nat
abbrev AR : Type := Option Value ⊕ String
abbrev WK : Type := Nat → AL → List Value → AM → AB → Prop
abbrev AQ : Type := AR → AM → Prop
abbrev WOp : Type := WK → AQ → AL → List Value → AM → AB → Prop
/-- an abstract value as the machine has it: a local id by ad, a float stands for a thing from before the launch's call, by ex -/
def xv (ad ex : Nat → Nat) : Value → Value
  | .ref k => .ref (ad k)
  | .float u => .ref (ex u.toNat)
  | v => v
def xc (ad : Nat → Nat) : XCn → XCn
  | .inr (.inr (.inr (.inr f))) => .inr (.inr (.inr (.inr (fun j => (f j).map ad))))
  | c => c
def xo (cy ad ex : Nat → Nat) : AO → va_E
  | .inl (t, n, c) => .inl (cy t, n, xc ad c)
  | .inr (ci, fs) => .inr (ci, fs.map (xv ad ex))
def xw (cy ad ex : Nat → Nat) (M : AM) : va_W := M.mapIdx fun k o => (ad k, xo cy ad ex o)
theorem xw_get {cy ad ex : Nat → Nat} {M : AM} {k : Nat} : (xw cy ad ex M)[k]? = (M[k]?).map (fun o => (ad k, xo cy ad ex o)) := by
  unfold xw
  rw [List.getElem?_mapIdx]
theorem xw_at {cy ad ex : Nat → Nat} {M : AM} {k : Nat} {o : AO} (h : M[k]? = some o) : (xw cy ad ex M)[k]? = some (ad k, xo cy ad ex o) := by rw [xw_get, h]; rfl
theorem xw_set {cy ad ex : Nat → Nat} {M : AM} {k : Nat} (o : AO) : (xw cy ad ex M).set k (ad k, xo cy ad ex o) = xw cy ad ex (M.set k o) := by
  apply List.ext_getElem?
  intro i
  rw [xw_get, List.getElem?_set, List.getElem?_set, xw_get]
  have hl : (xw cy ad ex M).length = M.length := by unfold xw; rw [List.length_mapIdx]
  rw [hl]
  by_cases h : k = i
  · subst h
    rw [if_pos rfl, if_pos rfl]
    by_cases h2 : k < M.length
    · rw [if_pos h2, if_pos h2]; rfl
    · rw [if_neg h2, if_neg h2]; rfl
  · rw [if_neg h, if_neg h]
theorem xw_push {cy ad ex : Nat → Nat} {M : AM} (o : AO) : xw cy ad ex M ++ [(ad M.length, xo cy ad ex o)] = xw cy ad ex (M ++ [o]) := by
  unfold xw
  rw [List.mapIdx_append]
  simp
/-! closed: every id within -/
def vcl (n : Nat) : Value → Prop
  | .ref k => k < n
  | _ => True
def ccl (n : Nat) : XCn → Prop
  | .inr (.inr (.inr (.inr f))) => ∀ j k, f j = some k → k < n
  | _ => True
def ocl (n : Nat) : AO → Prop
  | .inl (_, _, c) => ccl n c
  | .inr (_, fs) => ∀ v ∈ fs, vcl n v
def mcl (M : AM) : Prop := ∀ o ∈ M, ocl M.length o
def scl (n : Nat) (st : List Value) : Prop := ∀ v ∈ st, vcl n v
def lcl (n : Nat) (L : AL) : Prop := ∀ (i : Nat) (v : Value), L[i]? = some (some v) → vcl n v
theorem vcl.mono {n m : Nat} (h : n ≤ m) {v : Value} (hv : vcl n v) : vcl m v := by cases v <;> first | exact Nat.lt_of_lt_of_le hv h | exact trivial
theorem ccl.mono {n m : Nat} (h : n ≤ m) {c : XCn} (hc : ccl n c) : ccl m c := by
  rcases c with c | c | c | c | c <;> first | exact (fun j k e => Nat.lt_of_lt_of_le (hc j k e) h) | exact trivial
theorem ocl.mono {n m : Nat} (h : n ≤ m) {o : AO} (ho : ocl n o) : ocl m o := by
  rcases o with ⟨t, z, c⟩ | ⟨ci, fs⟩
  · exact ccl.mono h ho
  · exact fun v hv => (ho v hv).mono h
theorem scl.mono {n m : Nat} (h : n ≤ m) {st : List Value} (hs : scl n st) : scl m st := fun v hv => (hs v hv).mono h
theorem lcl.mono {n m : Nat} (h : n ≤ m) {L : AL} (hs : lcl n L) : lcl m L := fun i v hv => (hs i v hv).mono h
theorem mcl.at {M : AM} (h : mcl M) {k : Nat} {o : AO} (ho : M[k]? = some o) : ocl M.length o := h o (List.mem_of_getElem? ho)
theorem mcl.set {M : AM} (h : mcl M) {k : Nat} {o : AO} (ho : ocl M.length o) : mcl (M.set k o) := by
  intro x hx
  rw [List.length_set]
  rcases List.mem_or_eq_of_mem_set hx with h1 | h1
  · exact h x h1
  · rw [h1]; exact ho
theorem mcl.push {M : AM} (h : mcl M) {o : AO} (ho : ocl (M.length + 1) o) : mcl (M ++ [o]) := by
  intro x hx
  rw [List.length_append]
  rcases List.mem_append.mp hx with h1 | h1
  · exact (h x h1).mono (Nat.le_add_right _ _)
  · rw [List.mem_singleton.mp h1]; exact ho
theorem scl.cons {n : Nat} {v : Value} {st : List Value} (hv : vcl n v) (h : scl n st) : scl n (v :: st) := fun w hw => (List.mem_cons.mp hw).elim (fun e => e ▸ hv) (h w)
theorem scl.hd {n : Nat} {v : Value} {st : List Value} (h : scl n (v :: st)) : vcl n v := h v List.mem_cons_self
theorem scl.tl {n : Nat} {v : Value} {st : List Value} (h : scl n (v :: st)) : scl n st := fun w hw => h w (List.mem_cons_of_mem _ hw)
/-! another ad that agrees -/
def Agr (n : Nat) (ad ad' : Nat → Nat) : Prop := ∀ k, k < n → ad' k = ad k
theorem Agr.rf {n : Nat} {ad : Nat → Nat} : Agr n ad ad := fun _ _ => rfl
theorem Agr.tr {n m : Nat} {a b c : Nat → Nat} (h1 : Agr n a b) (h2 : Agr m b c) (hm : n ≤ m) : Agr n a c := fun k hk => (h2 k (Nat.lt_of_lt_of_le hk hm)).trans (h1 k hk)
theorem Agr.mono {n m : Nat} {a b : Nat → Nat} (h : Agr m a b) (hm : n ≤ m) : Agr n a b := fun k hk => h k (Nat.lt_of_lt_of_le hk hm)
theorem xv_agr {n : Nat} {ad ad' ex : Nat → Nat} (h : Agr n ad ad') {v : Value} (hv : vcl n v) : xv ad' ex v = xv ad ex v := by
  cases v <;> first | rfl | (show Value.ref _ = Value.ref _; rw [h _ hv])
theorem xc_agr {n : Nat} {ad ad' : Nat → Nat} (h : Agr n ad ad') {c : XCn} (hc : ccl n c) : xc ad' c = xc ad c := by
  rcases c with c | c | c | c | f
  · rfl
  · rfl
  · rfl
  · rfl
  · have e : (fun j => (f j).map ad') = (fun j => (f j).map ad) := by
      funext j
      cases hf : f j with
      | none => rfl
      | some k => show some (ad' k) = some (ad k); rw [h k (hc j k hf)]
    show (Sum.inr (Sum.inr (Sum.inr (Sum.inr (fun j => (f j).map ad')))) : XCn) = _
    rw [e]
    rfl
theorem xo_agr {n : Nat} {cy ad ad' ex : Nat → Nat} (h : Agr n ad ad') {o : AO} (ho : ocl n o) : xo cy ad' ex o = xo cy ad ex o := by
  rcases o with ⟨t, z, c⟩ | ⟨ci, fs⟩
  · show (Sum.inl (cy t, z, xc ad' c) : va_E) = Sum.inl (cy t, z, xc ad c)
    rw [xc_agr h ho]
  · show (Sum.inr (ci, fs.map (xv ad' ex)) : va_E) = Sum.inr (ci, fs.map (xv ad ex))
    have e : fs.map (xv ad' ex) = fs.map (xv ad ex) := List.map_congr_left fun v hv => xv_agr h (ho v hv)
    rw [e]
theorem xw_agr {cy ad ad' ex : Nat → Nat} {M : AM} (h : Agr M.length ad ad') (hM : mcl M) : xw cy ad' ex M = xw cy ad ex M := by
  apply List.ext_getElem?
  intro i
  rw [xw_get, xw_get]
  cases hi : M[i]? with
  | none => rfl
  | some o =>
    show some (ad' i, xo cy ad' ex o) = some (ad i, xo cy ad ex o)
    rw [h i (List.getElem?_eq_some_iff.mp hi).1, xo_agr h (hM.at hi)]
theorem st_agr {n : Nat} {ad ad' ex : Nat → Nat} (h : Agr n ad ad') {st : List Value} (hs : scl n st) : st.map (xv ad' ex) = st.map (xv ad ex) := List.map_congr_left fun v hv => xv_agr h (hs v hv)
/-! locals by place -/
def xl (ad ex : Nat → Nat) (L : AL) : List (Nat × Value) := (L.mapIdx fun i o => o.map (fun v => (i, xv ad ex v))).filterMap id
theorem xl_mem {ad ex : Nat → Nat} {L : AL} {q : Nat × Value} : q ∈ xl ad ex L ↔ ∃ v, L[q.1]? = some (some v) ∧ q.2 = xv ad ex v := by
  unfold xl
  rw [List.mem_filterMap]
  constructor
  · rintro ⟨o, ho, hq⟩
    obtain ⟨i, hi⟩ := List.getElem?_of_mem ho
    rw [List.getElem?_mapIdx] at hi
    cases hL : L[i]? with
    | none => rw [hL] at hi; cases hi
    | some w =>
      rw [hL] at hi
      have hi2 : w.map (fun v => (i, xv ad ex v)) = o := Option.some.inj hi
      have hq2 : o = some q := hq
      rw [hq2] at hi2
      cases w with
      | none => cases hi2
      | some v =>
        have e : (i, xv ad ex v) = q := Option.some.inj hi2
        rw [← e]
        exact ⟨v, hL, rfl⟩
  · rintro ⟨v, h1, h2⟩
    refine ⟨some q, ?_, rfl⟩
    refine List.mem_of_getElem? (i := q.1) ?_
    rw [List.getElem?_mapIdx, h1]
    show some (some (q.1, xv ad ex v)) = some (some q)
    rw [← h2]
theorem xl_at {ls : Array Slot} {nL : Nat} {ad ex : Nat → Nat} {L : AL} (h : lv_has ls nL (xl ad ex L)) {i : Nat} {v : Value} (hi : L[i]? = some (some v)) : ls[i]? = some (.val (xv ad ex v)) := h.2.2 (i, xv ad ex v) (xl_mem.mpr ⟨v, hi, rfl⟩)
theorem xl_sub {ls : Array Slot} {nL : Nat} {ad ex : Nat → Nat} {L L' : AL} (h : lv_has ls nL (xl ad ex L)) (hs : ∀ (i : Nat) (v : Value), L'[i]? = some (some v) → L[i]? = some (some v)) : lv_has ls nL (xl ad ex L') := ⟨h.1, h.2.1, fun q hq => by
  obtain ⟨v, h1, h2⟩ := xl_mem.mp hq
  exact h.2.2 q (xl_mem.mpr ⟨v, hs _ _ h1, h2⟩)⟩
theorem xl_agr {n : Nat} {ad ad' ex : Nat → Nat} (h : Agr n ad ad') {L : AL} (hL : lcl n L) {ls : Array Slot} {nL : Nat} (hl : lv_has ls nL (xl ad ex L)) : lv_has ls nL (xl ad' ex L) := ⟨hl.1, hl.2.1, fun q hq => by
  obtain ⟨v, h1, h2⟩ := xl_mem.mp hq
  exact hl.2.2 q (xl_mem.mpr ⟨v, h1, by rw [h2, xv_agr h (hL _ _ h1)]⟩)⟩
/-- store a value of one slot -/
def stk (L : AL) (i : Nat) : AL := match i with
  | 0 => L
  | j + 1 => match L[j]? with
    | some (some (.long _)) => L.set j none
    | some (some (.double _)) => L.set j none
    | _ => L
def st1 (L : AL) (i : Nat) (v : Value) : AL := (stk L i).set i (some v)
def st2 (L : AL) (i : Nat) (v : Value) : AL := ((stk L i).set (i + 1) none).set i (some v)
theorem stk_len (L : AL) (i : Nat) : (stk L i).length = L.length := by
  unfold stk
  split
  · rfl
  · split <;> simp
theorem stk_sub {L : AL} {i : Nat} {j : Nat} {v : Value} (h : (stk L i)[j]? = some (some v)) : L[j]? = some (some v) ∧ ¬ (j + 1 = i ∧ v.category = 2) := by
  unfold stk at h
  split at h
  · exact ⟨h, fun z => absurd z.1 (Nat.succ_ne_zero j)⟩
  · rename_i k
    have key : ∀ w : Value, L[k]? = some (some w) → (L.set k none)[j]? = some (some v) → L[j]? = some (some v) ∧ ¬ (j + 1 = k + 1 ∧ v.category = 2) := by
      intro w hw h
      rw [List.getElem?_set] at h
      by_cases hk : k = j
      · subst hk
        rw [if_pos rfl] at h
        split at h <;> cases h
      · rw [if_neg hk] at h
        exact ⟨h, fun z => hk (Nat.succ.inj z.1).symm⟩
    split at h
    · rename_i x hw
      exact key _ hw h
    · rename_i x hw
      exact key _ hw h
    · rename_i h1 h2
      refine ⟨h, fun z => ?_⟩
      have e : j = k := Nat.succ.inj z.1
      subst e
      cases v with
      | long x => exact h1 x h
      | double x => exact h2 x h
      | _ => cases z.2
theorem xv_cat {ad ex : Nat → Nat} (v : Value) : (xv ad ex v).category = v.category := by cases v <;> rfl
theorem xl_st1 {ls : Array Slot} {nL : Nat} {ad ex : Nat → Nat} {L : AL} {i : Nat} {v : Value} (hn : (stk L i).length ≤ nL ∨ True) (hl : lv_has ls nL ((i, xv ad ex v) :: (xl ad ex L).filter (fun q => !(q.1 == i) && !(q.1 + 1 == i && q.2.category == 2)))) : lv_has ls nL (xl ad ex (st1 L i v)) := ⟨hl.1, hl.2.1, fun q hq => by
  obtain ⟨w, h1, h2⟩ := xl_mem.mp hq
  refine hl.2.2 q ?_
  unfold st1 at h1
  rw [List.getElem?_set] at h1
  by_cases hi : i = q.1
  · rw [if_pos hi] at h1
    split at h1
    · have e : v = w := by cases h1; rfl
      obtain ⟨q1, q2⟩ := q
      dsimp only at hi h2
      subst hi; subst e; subst h2
      exact List.mem_cons_self
    · cases h1
  · rw [if_neg hi] at h1
    obtain ⟨h3, h4⟩ := stk_sub h1
    refine List.mem_cons_of_mem _ (List.mem_filter.mpr ⟨xl_mem.mpr ⟨w, h3, h2⟩, ?_⟩)
    have c : q.2.category = w.category := by rw [h2, xv_cat]
    simp only [Bool.and_eq_true, Bool.not_eq_true', beq_eq_false_iff_ne, Bool.and_eq_false_iff, ne_eq]
    refine ⟨fun z => hi z.symm, ?_⟩
    rw [c]
    by_cases z : q.1 + 1 = i
    · exact Or.inr fun z2 => h4 ⟨z, z2⟩
    · exact Or.inl z⟩
theorem xl_st2 {ls : Array Slot} {nL : Nat} {ad ex : Nat → Nat} {L : AL} {i : Nat} {v : Value} (hl : lv_has ls nL ((i, xv ad ex v) :: (xl ad ex L).filter (fun q => !(q.1 == i) && (!(q.1 == i + 1) && !(q.1 + 1 == i && q.2.category == 2))))) : lv_has ls nL (xl ad ex (st2 L i v)) := ⟨hl.1, hl.2.1, fun q hq => by
  obtain ⟨w, h1, h2⟩ := xl_mem.mp hq
  refine hl.2.2 q ?_
  unfold st2 at h1
  rw [List.getElem?_set] at h1
  by_cases hi : i = q.1
  · rw [if_pos hi] at h1
    split at h1
    · have e : v = w := by cases h1; rfl
      obtain ⟨q1, q2⟩ := q
      dsimp only at hi h2
      subst hi; subst e; subst h2
      exact List.mem_cons_self
    · cases h1
  · rw [if_neg hi, List.getElem?_set] at h1
    by_cases hi2 : i + 1 = q.1
    · rw [if_pos hi2] at h1
      split at h1 <;> cases h1
    · rw [if_neg hi2] at h1
      obtain ⟨h3, h4⟩ := stk_sub h1
      refine List.mem_cons_of_mem _ (List.mem_filter.mpr ⟨xl_mem.mpr ⟨w, h3, h2⟩, ?_⟩)
      have c : q.2.category = w.category := by rw [h2, xv_cat]
      simp only [Bool.and_eq_true, Bool.not_eq_true', beq_eq_false_iff_ne, Bool.and_eq_false_iff, ne_eq]
      refine ⟨fun z => hi z.symm, fun z => hi2 z.symm, ?_⟩
      rw [c]
      by_cases z : q.1 + 1 = i
      · exact Or.inr fun z2 => h4 ⟨z, z2⟩
      · exact Or.inl z⟩
theorem lcl_st1 {n : Nat} {L : AL} {i : Nat} {v : Value} (h : lcl n L) (hv : vcl n v) : lcl n (st1 L i v) := by
  intro j w hj
  unfold st1 at hj
  rw [List.getElem?_set] at hj
  by_cases hi : i = j
  · rw [if_pos hi] at hj
    split at hj
    · cases hj; exact hv
    · cases hj
  · rw [if_neg hi] at hj
    exact h j w (stk_sub hj).1
theorem lcl_st2 {n : Nat} {L : AL} {i : Nat} {v : Value} (h : lcl n L) (hv : vcl n v) : lcl n (st2 L i v) := by
  intro j w hj
  unfold st2 at hj
  rw [List.getElem?_set] at hj
  by_cases hi : i = j
  · rw [if_pos hi] at hj
    split at hj
    · cases hj; exact hv
    · cases hj
  · rw [if_neg hi, List.getElem?_set] at hj
    by_cases hi2 : i + 1 = j
    · rw [if_pos hi2] at hj
      split at hj <;> cases hj
    · rw [if_neg hi2] at hj
      exact h j w (stk_sub hj).1
end
section
/-! ===== the words that every contract takes, and what stood before the launch's call ===== -/
theorem WG_in {ws : List Cond} (h : ∀ w ∈ ws, w ∈ WG) : GoodIn WG ws := fun w hw => ⟨h w hw, good_of_word (List.mem_filter.mp (h w hw)).2⟩
def EWn : List (String × Nat × MethodName × String) := [("PlateArm", 9, yX6_init, "PlateArm"), ("PlateArm$State", 24, yX1_init, "PlateArm"), ("PlateArm$State", 31, yX5_init, "PlateArm"), ("PlateArm$State", 38, yX4_init, "PlateArm"), ("PlateArm$State", 45, yX7_init, "PlateArm"), ("PlateArm", 30, yX3_init, "PlateArm"), ("PlateArm", 37, yX2_init, "PlateArm")]
def EWc : List (String × String) := [("java/lang/IllegalArgumentException", "java/lang/IllegalArgumentException"), ("java/lang/IllegalStateException", "java/lang/IllegalStateException"), ("java/lang/IndexOutOfBoundsException", "java/lang/IndexOutOfBoundsException")]
def ENc : List (String × String) := [("java/lang/IllegalStateException", "java/lang/IllegalArgumentException"), ("java/lang/IllegalArgumentException", "java/lang/IndexOutOfBoundsException")]
def EWd : List MethodName := [⟨"java/lang/RuntimeException", "<init>", "()V"⟩, ⟨"java/lang/Exception", "<init>", "()V"⟩, ⟨"java/lang/Throwable", "<init>", "()V"⟩]
def EZ : List (String × String × String × Value) := [("PlateArm$Word", "UNKNOWN", "LPlateArm$Word;", .float 0), ("PlateArm$CommandScan", "WORDS", "[LPlateArm$Word;", .float 21), ("PlateArm", "LOWEST_SETTING", "[I", .float 18), ("PlateArm", "HIGHEST_SETTING", "[I", .float 19), ("PlateArm$1", "$SwitchMap$PlateArm$Word", "[I", .float 20), ("java/lang/String", "COMPACT_STRINGS", "Z", .int 1)]
def exB (l : List Int32) : Nat → Value := fun j => .int (l.getD j 0)
def ET : List (Nat × FieldType × Nat × (Nat → Value)) := [(18, .int, 4, exB [0, 0, 5, 0]), (19, .int, 4, exB [3, 20, 200, 100]), (20, .int, 6, exB [0, 1, 2, 3, 4, 5]), (21, .object "PlateArm$Word", 6, fun j => .float (UInt32.ofNat j)), (12, .byte, 0, exB []), (13, .byte, 5, exB [112, 108, 97, 116, 101]), (14, .byte, 4, exB [114, 101, 97, 100]), (15, .byte, 6, exB [99, 97, 110, 99, 101, 108]), (16, .byte, 3, exB [115, 101, 116]), (17, .byte, 5, exB [116, 105, 99, 107, 115])]
def EO : List (Nat × String) := [(0, "PlateArm$Word"), (1, "PlateArm$Word"), (2, "PlateArm$Word"), (3, "PlateArm$Word"), (4, "PlateArm$Word"), (5, "PlateArm$Word"), (6, "java/lang/String"), (7, "java/lang/String"), (8, "java/lang/String"), (9, "java/lang/String"), (10, "java/lang/String"), (11, "java/lang/String")]
def EFw (k : Nat) (n : Int32) : List (Nat × String × String × String × Value) := [(k, "java/lang/Enum", "ordinal", "I", .int (Int32.ofNat k)), (k, "PlateArm$Word", "letters", "Ljava/lang/String;", .float (UInt32.ofNat (6 + k))), (k, "PlateArm$Word", "numbers", "I", .int n)]
def EFs (k : Nat) : List (Nat × String × String × String × Value) := [(k, "java/lang/String", "coder", "B", .int 0), (k, "java/lang/String", "value", "[B", .float (UInt32.ofNat (6 + k)))]
def EF : List (Nat × String × String × String × Value) := EFw 0 0 ++ EFw 1 2 ++ EFw 2 3 ++ EFw 3 1 ++ EFw 4 2 ++ EFw 5 1 ++ EFs 6 ++ EFs 7 ++ EFs 8 ++ EFs 9 ++ EFs 10 ++ EFs 11
/-- a value of the things from before -/
def xe (ex : Nat → Nat) : Value → Value
  | .float u => .ref (ex u.toNat)
  | v => v
def nref : Value → Bool
  | .ref _ => false
  | _ => true
theorem xe_xv {ad ex : Nat → Nat} {v : Value} (h : nref v = true) : xv ad ex v = xe ex v := by cases v <;> first | rfl | cases h
theorem nref_cl {n : Nat} {v : Value} (h : nref v = true) : vcl n v := by cases v <;> first | exact trivial | cases h
theorem EZ_nref : ∀ q ∈ EZ, nref q.2.2.2 = true := by simp [EZ, nref]
theorem EF_nref : ∀ q ∈ EF, nref q.2.2.2.2 = true := by simp [EF, EFw, EFs, nref]
theorem ET_nref : ∀ q ∈ ET, ∀ j, nref (q.2.2.2 j) = true := by simp [ET, exB, nref]
def XE (ex : Nat → Nat) (A : Nat → Prop) (U : State) (H : Heap) : Prop :=
  (∀ q ∈ EZ, va_Z q.1 q.2.1 q.2.2.1 (xe ex q.2.2.2) A U H) ∧ (∀ q ∈ ET, va_T q.2.1 (ex q.1) q.2.2.1 (fun j => xe ex (q.2.2.2 j)) A U H) ∧ (∀ q ∈ EO, va_O q.2 (ex q.1) A U H) ∧ (∀ q ∈ EF, va_OF q.2.1 q.2.2.1 q.2.2.2.1 (xe ex q.2.2.2.2) (ex q.1) A U H) ∧
  (vx_Zq Bundle.tN "UNASSIGNED_STACK" Bundle.steD A U H ∧ vx_Zq Bundle.tN "SUPPRESSED_SENTINEL" Bundle.listD A U H) ∧ (∀ i j, i < 6 → j < 6 → ex i = ex j → i = j) ∧
  (∀ q ∈ EWn, va_Nw (.methodLinkNest q.1 q.2.1 q.2.2.1 q.2.2.2) U) ∧ (∀ q ∈ EWc, va_Nw (.castable q.1 q.2) U) ∧ (∀ q ∈ ENc, va_Nc q.1 q.2 U) ∧ va_AO "PlateArm$State" U ∧ va_AOA .int U ∧ (∀ x ∈ EWd, va_Nw (.declares x) U) ∧
  (va_Z "jdk/internal/util/Preconditions" "SIOOBE_FORMATTER" "Ljava/util/function/BiFunction;" .null A U H ∨ va_Z "jdk/internal/util/Preconditions" "SIOOBE_FORMATTER" "Ljava/util/function/BiFunction;" (.ref (ex 22)) A U H)
theorem va_AOA.moved {ty : FieldType} {u U : State} (hvm : u.vm.Alike U.vm) (h : va_AOA ty u) : va_AOA ty U := by
  have h1 : (Cond.arrayOver (.array ty)).before #[] (u.setVm U.vm) = true := by rw [Cond.arrayOver_setVmC hvm]; exact h
  exact h1
theorem XE.warm {ex : Nat → Nat} {A : Nat → Prop} {u U : State} {H : Heap} (hW : u.WarmedH U.vm) (h : XE ex A u H) : XE ex A U H := by
  obtain ⟨h1, h2, h3, h4, ⟨h5, h6⟩, h7, h8, h9, h10, h11, h12, h13, h14⟩ := h
  exact ⟨fun q hq => (h1 q hq).moved hW.alike, fun q hq => (h2 q hq).moved hW.alike, fun q hq => (h3 q hq).moved hW.alike, fun q hq => (h4 q hq).moved hW.alike, ⟨h5.moved hW.alike, h6.moved hW.alike⟩, h7, fun q hq => va_Nw.warmM hW (h8 q hq), fun q hq => va_Nw.warmC hW (h9 q hq), fun q hq => va_Nc.moved hW.alike (h10 q hq), h11.moved hW.alike, h12.moved hW.alike, fun q hq => va_Nw.warmD hW (h13 q hq), h14.imp (fun q => q.moved hW.alike) (fun q => q.moved hW.alike)⟩
theorem XE.kept {ex : Nat → Nat} {A : Nat → Prop} {U : State} {H H1 : Heap} (h : XE ex A U H) (hq : ∀ a : Nat, a < H.size → ¬ A a → H1[a]? = H[a]?) : XE ex A U H1 := by
  obtain ⟨h1, h2, h3, h4, ⟨h5, h6⟩, h7, h8, h9, h10, h11, h12, h13, h14⟩ := h
  exact ⟨fun q hq2 => (h1 q hq2).kept hq, fun q hq2 => (h2 q hq2).kept hq, fun q hq2 => (h3 q hq2).kept hq, fun q hq2 => (h4 q hq2).kept hq, ⟨h5.kept hq, h6.kept hq⟩, h7, h8, h9, h10, h11, h12, h13, h14.imp (fun q => q.kept hq) (fun q => q.kept hq)⟩
theorem XE.narrow {ex : Nat → Nat} {A B : Nat → Prop} {U : State} {H : Heap} (h : XE ex A U H) (hAB : ∀ q, B q → A q) : XE ex B U H := by
  obtain ⟨h1, h2, h3, h4, ⟨h5, h6⟩, h7, h8, h9, h10, h11, h12, h13, h14⟩ := h
  exact ⟨fun q hq2 => (h1 q hq2).narrow hAB, fun q hq2 => (h2 q hq2).narrow hAB, fun q hq2 => (h3 q hq2).narrow hAB, fun q hq2 => (h4 q hq2).narrow hAB, ⟨h5.narrow hAB, h6.narrow hAB⟩, h7, h8, h9, h10, h11, h12, h13, h14.imp (fun q => q.narrow hAB) (fun q => q.narrow hAB)⟩
theorem XE.same {ex : Nat → Nat} {A : Nat → Prop} {u U : State} {H : Heap} (hv : U.vm = u.vm) (h : XE ex A u H) : XE ex A U H := XE.warm (by rw [hv]; exact State.WarmedH.refl u) h
end
section
/-! ===== contexts; what it means that an op is sound at a place ===== -/
abbrev TrD : Type := MethodName × ByteArray × Nat × Option FieldType × Nat × Nat
def TY (cy : Nat → Nat) : List (ClassId × FieldType) := [(cy 0, .int), (cy 1, .byte), (cy 2, .long), (cy 3, .object "PlateArm$State"), (cy 4, .array .int)]
/-- the machine at the frame pc with the abstract locals, stack, world and credit comes to Z -/
def XX (p : Program) (l : Launch) (e : Env) (R : Room) (s : State) (m : MethodId) (args : Array Value) (below : List Frame) (meth : Method) (c : Code) (Z : State → Prop) (D : va_G) (cy ex : Nat → Nat) (A : Nat → Prop) (n0 : Nat) (ad0 : Nat → Nat) (nL : Nat) : WK := fun pc L st M b =>
  ∀ (ad : Nat → Nat) (H : Heap) (locs : List Loc) (ls : Array Slot), Agr n0 ad0 ad → n0 ≤ M.length → mcl M → scl M.length st → lcl M.length L → b.1 ≤ R.cells → b.2 ≤ R.slots →
    va_P D vwCl (xw cy ad ex M) H → va_D A (xw cy ad ex M) → va_S A s.heap H locs → lv_has ls nL (xl ad ex L) →
    W p l e R s m args below meth c H locs (R.cells - b.1) (R.slots - b.2) Z (F0 m pc ls (st.map (xv ad ex)))
/-- the ends of a method: what Q says of an answer or a throw is enough -/
def Fins (d : TrD) (p : Program) (l : Launch) (e : Env) (R : Room) (s : State) (m : MethodId) (args : Array Value) (below : List Frame) (meth : Method) (c : Code) (Z : State → Prop) (D : va_G) (cy ex : Nat → Nat) (A : Nat → Prop) (n0 : Nat) (ad0 : Nat → Nat) (Q : AQ) : Prop :=
  (∀ (pc : Nat) (L : AL) (x : Int32) (M : AM) (b : AB), decode d.2.1 pc = .ok (.ireturn, 1) → (∃ ty, d.2.2.2.1 = some ty ∧ narrow ty (.int x) = .int x) → Q (.inl (some (.int x))) M → XX p l e R s m args below meth c Z D cy ex A n0 ad0 d.2.2.1 pc L [.int x] M b) ∧
  (∀ (pc : Nat) (L : AL) (x : Int64) (M : AM) (b : AB), decode d.2.1 pc = .ok (.lreturn, 1) → d.2.2.2.1 = some .long → Q (.inl (some (.long x))) M → XX p l e R s m args below meth c Z D cy ex A n0 ad0 d.2.2.1 pc L [.long x] M b) ∧
  (∀ (pc : Nat) (L : AL) (u : UInt32) (M : AM) (b : AB), decode d.2.1 pc = .ok (.areturn, 1) → (∃ n, d.2.2.2.1 = some (.object n)) → Q (.inl (some (.float u))) M → XX p l e R s m args below meth c Z D cy ex A n0 ad0 d.2.2.1 pc L [.float u] M b) ∧
  (∀ (pc : Nat) (L : AL) (M : AM) (b : AB), decode d.2.1 pc = .ok (.return_, 1) → d.2.2.2.1 = none → Q (.inl none) M → XX p l e R s m args below meth c Z D cy ex A n0 ad0 d.2.2.1 pc L [] M b) ∧
  (∀ (pc : Nat) (E : String) (ce : Cell) (q : Addr) (H : Heap) (M : AM) (b : AB) (ad : Nat → Nat) (ls : Array Slot) (rest : List Value) (locs : List Loc), Q (.inr E) M → Agr n0 ad0 ad → n0 ≤ M.length → mcl M → b.1 ≤ R.cells → b.2 ≤ R.slots →
    va_P D vwCl (xw cy ad ex M) H → va_D A (xw cy ad ex M) → va_S A s.heap H locs → H[q]? = some ce → ce.vm = .none → s.vm.findClass E = some ce.cls → vx_W p l e R s m args below meth c H locs (R.cells - b.1) (R.slots - b.2) Z (F0 m pc ls rest) q) ∧
  (∀ (pc ik ic : Nat) (cls : String) (L : AL) (M : AM) (b : AB), decode d.2.1 pc = .ok (.new ik, 3) → decode d.2.1 (pc + 3) = .ok (.dup, 1) → decode d.2.1 (pc + 4) = .ok (.invokespecial ic, 3) → decode d.2.1 (pc + 7) = .ok (.athrow, 1) →
    Bundle.fit cls = true → (Cond.classLink d.1.cls ik cls).before args s = true → (Cond.initialized cls).before args s = true → (∀ w ∈ vx_at0 d.1.cls ic cls ["java/lang/RuntimeException", "java/lang/Exception"], w.before args s = true) → (∀ w ∈ Cond.classLink d.1.cls ik cls :: Cond.initialized cls :: vx_at0 d.1.cls ic cls ["java/lang/RuntimeException", "java/lang/Exception"], vx_ot w = true) →
    5 < R.frames → 81 ≤ R.locals → 1 ≤ b.1 → 6 ≤ b.2 → Q (.inr cls) M → XX p l e R s m args below meth c Z D cy ex A n0 ad0 d.2.2.1 pc L [] M b)
def Cx (d : TrD) (p : Program) (l : Launch) (e : Env) (R : Room) (s : State) (m : MethodId) (args : Array Value) (below : List Frame) (meth : Method) (c : Code) (Z : State → Prop) (D : va_G) (cy ex : Nat → Nat) (A : Nat → Prop) (n0 : Nat) (ad0 : Nat → Nat) (Q : AQ) : Prop :=
  p.tables.exec = Jvm.exec ∧ c.code = d.2.1 ∧ c.maxLocals = d.2.2.1 ∧ s.vm.findClass d.1.cls = some m.cls ∧ (∀ w ∈ WG, w.before args s = true) ∧ va_K D vwCl (TY cy) s ∧ XE ex A s s.heap ∧ (∀ q, s.heap.size ≤ q → A q) ∧ R.frames = d.2.2.2.2.1 ∧ R.locals = d.2.2.2.2.2 ∧ (d.1.name = "<init>" → meth.name = "<init>") ∧ l.stackTraces = false ∧
  Fins d p l e R s m args below meth c Z D cy ex A n0 ad0 Q
/-- G: what else the op wants of the context (True, but for the law's own script) -/
def Snd (d : TrD) (G : (Nat → Nat) → (Nat → Prop) → State → Prop) (pc : Nat) (op : WOp) : Prop :=
  ∀ (p : Program) (l : Launch) (e : Env) (R : Room) (s : State) (m : MethodId) (args : Array Value) (below : List Frame) (meth : Method) (c : Code) (Z : State → Prop) (D : va_G) (cy ex : Nat → Nat) (A : Nat → Prop) (n0 : Nat) (ad0 : Nat → Nat) (Q : AQ), Cx d p l e R s m args below meth c Z D cy ex A n0 ad0 Q → G ex A s →
    ∀ K : WK, (∀ pc L st M b, K pc L st M b → XX p l e R s m args below meth c Z D cy ex A n0 ad0 d.2.2.1 pc L st M b) → ∀ (L : AL) (st : List Value) (M : AM) (b : AB), op K Q L st M b → XX p l e R s m args below meth c Z D cy ex A n0 ad0 d.2.2.1 pc L st M b
abbrev GX : Type := (Nat → Nat) → (Nat → Prop) → State → Prop
def oBad : WOp := fun _ _ _ _ _ _ => False
theorem s_bad {d : TrD} {G : GX} {pc : Nat} : Snd d G pc oBad := fun _ _ _ _ _ _ _ _ _ _ _ _ _ _ _ _ _ _ _ _ _ _ _ _ _ _ h => h.elim
/-! code as a tree over the places -/
def cN (k : Nat) (a b : Nat → WOp) : Nat → WOp := fun pc => match Nat.ble pc k with
  | true => a pc
  | false => b pc
def cL (k : Nat) (o : WOp) : Nat → WOp := fun pc => match Nat.beq pc k with
  | true => o
  | false => oBad
theorem s_N {d : TrD} {G : GX} {k : Nat} {a b : Nat → WOp} (ha : ∀ pc, Snd d G pc (a pc)) (hb : ∀ pc, Snd d G pc (b pc)) : ∀ pc, Snd d G pc (cN k a b pc) := fun pc => by
  unfold cN
  split
  · exact ha pc
  · exact hb pc
theorem s_L {d : TrD} {G : GX} {k : Nat} {o : WOp} (h : Snd d G k o) : ∀ pc, Snd d G pc (cL k o pc) := fun pc => by
  unfold cL
  split
  · rename_i e
    rw [Nat.eq_of_beq_eq_true e]; exact h
  · exact s_bad

def o_push (n : Nat) (v : Int32) : WOp := fun K Q L st M b => K n L (.int v :: st) M b
theorem s_iconst {d : TrD} {G : GX} {pc : Nat} {k : Int} {v : Int32} (hd : decode d.2.1 pc = .ok (.iconst k, 1)) (hv : Int32.ofInt k = v) : Snd d G pc (o_push (pc + 1) v) := by
  intro p l e R s m args below meth c Z D cy ex A n0 ad0 Q C g K hK L st M b h ad H locs ls h1 h2 h3 h4 h5 h6 h7 hP hD hS hl
  refine lv_iconst C.1 C.2.1 hd hv ?_
  exact hK _ _ _ _ _ h ad H locs ls h1 h2 h3 (scl.cons trivial h4) h5 h6 h7 hP hD hS hl
theorem s_bipush {d : TrD} {G : GX} {pc : Nat} {k : Int} {v : Int32} (hd : decode d.2.1 pc = .ok (.bipush k, 2)) (hv : (Int8.ofInt k).toInt32 = v) : Snd d G pc (o_push (pc + 2) v) := by
  intro p l e R s m args below meth c Z D cy ex A n0 ad0 Q C g K hK L st M b h ad H locs ls h1 h2 h3 h4 h5 h6 h7 hP hD hS hl
  refine lv_bipush C.1 C.2.1 hd hv ?_
  exact hK _ _ _ _ _ h ad H locs ls h1 h2 h3 (scl.cons trivial h4) h5 h6 h7 hP hD hS hl
theorem s_sipush {d : TrD} {G : GX} {pc : Nat} {k : Int} {v : Int32} (hd : decode d.2.1 pc = .ok (.sipush k, 3)) (hv : (Int16.ofInt k).toInt32 = v) : Snd d G pc (o_push (pc + 3) v) := by
  intro p l e R s m args below meth c Z D cy ex A n0 ad0 Q C g K hK L st M b h ad H locs ls h1 h2 h3 h4 h5 h6 h7 hP hD hS hl
  refine lv_sipush C.1 C.2.1 hd hv ?_
  exact hK _ _ _ _ _ h ad H locs ls h1 h2 h3 (scl.cons trivial h4) h5 h6 h7 hP hD hS hl
def o_lpush (n : Nat) (v : Int64) : WOp := fun K Q L st M b => K n L (.long v :: st) M b
theorem s_ldc2 {d : TrD} {G : GX} {pc : Nat} {ix : Nat} {v : Int64} (hd : decode d.2.1 pc = .ok (.ldc2_w ix, 3)) (hw : Cond.constantLong d.1.cls ix v ∈ WG) : Snd d G pc (o_lpush (pc + 3) v) := by
  intro p l e R s m args below meth c Z D cy ex A n0 ad0 Q C g K hK L st M b h ad H locs ls h1 h2 h3 h4 h5 h6 h7 hP hD hS hl
  refine lv_ldc2 C.1 C.2.1 C.2.2.2.1 (C.2.2.2.2.1 _ hw) hd ?_
  exact hK _ _ _ _ _ h ad H locs ls h1 h2 h3 (scl.cons trivial h4) h5 h6 h7 hP hD hS hl
def o_iload (n i : Nat) : WOp := fun K Q L st M b => match L[i]? with
  | some (some (.int x)) => K n L (.int x :: st) M b
  | _ => False
def o_lload (n i : Nat) : WOp := fun K Q L st M b => match L[i]? with
  | some (some (.long x)) => K n L (.long x :: st) M b
  | _ => False
def o_aload (n i : Nat) : WOp := fun K Q L st M b => match L[i]? with
  | some (some (.ref x)) => K n L (.ref x :: st) M b
  | some (some (.float x)) => K n L (.float x :: st) M b
  | _ => False
theorem s_iload_n {d : TrD} {G : GX} {pc : Nat} {k : Fin 4} {i : Nat} (hd : decode d.2.1 pc = .ok (.iload_n k, 1)) (hi : (k : Nat) = i) : Snd d G pc (o_iload (pc + 1) i) := by
  intro p l e R s m args below meth c Z D cy ex A n0 ad0 Q C g K hK L st M b h ad H locs ls h1 h2 h3 h4 h5 h6 h7 hP hD hS hl
  unfold o_iload at h
  split at h
  · rename_i x hx
    have hx2 := xl_at hl hx
    refine lv_iload_n C.1 C.2.1 hd hi hx2 ?_
    exact hK _ _ _ _ _ h ad H locs ls h1 h2 h3 (scl.cons (h5 _ _ hx) h4) h5 h6 h7 hP hD hS hl
  · exact h.elim
theorem s_iload {d : TrD} {G : GX} {pc : Nat} {i : Nat} (hd : decode d.2.1 pc = .ok (.iload i, 2)) : Snd d G pc (o_iload (pc + 2) i) := by
  intro p l e R s m args below meth c Z D cy ex A n0 ad0 Q C g K hK L st M b h ad H locs ls h1 h2 h3 h4 h5 h6 h7 hP hD hS hl
  unfold o_iload at h
  split at h
  · rename_i x hx
    have hx2 := xl_at hl hx
    refine lv_iload C.1 C.2.1 hd  hx2 ?_
    exact hK _ _ _ _ _ h ad H locs ls h1 h2 h3 (scl.cons (h5 _ _ hx) h4) h5 h6 h7 hP hD hS hl
  · exact h.elim
theorem s_lload_n {d : TrD} {G : GX} {pc : Nat} {k : Fin 4} {i : Nat} (hd : decode d.2.1 pc = .ok (.lload_n k, 1)) (hi : (k : Nat) = i) : Snd d G pc (o_lload (pc + 1) i) := by
  intro p l e R s m args below meth c Z D cy ex A n0 ad0 Q C g K hK L st M b h ad H locs ls h1 h2 h3 h4 h5 h6 h7 hP hD hS hl
  unfold o_lload at h
  split at h
  · rename_i x hx
    have hx2 := xl_at hl hx
    refine lv_lload_n C.1 C.2.1 hd hi hx2 ?_
    exact hK _ _ _ _ _ h ad H locs ls h1 h2 h3 (scl.cons (h5 _ _ hx) h4) h5 h6 h7 hP hD hS hl
  · exact h.elim
theorem s_lload {d : TrD} {G : GX} {pc : Nat} {i : Nat} (hd : decode d.2.1 pc = .ok (.lload i, 2)) : Snd d G pc (o_lload (pc + 2) i) := by
  intro p l e R s m args below meth c Z D cy ex A n0 ad0 Q C g K hK L st M b h ad H locs ls h1 h2 h3 h4 h5 h6 h7 hP hD hS hl
  unfold o_lload at h
  split at h
  · rename_i x hx
    have hx2 := xl_at hl hx
    refine lv_lload C.1 C.2.1 hd  hx2 ?_
    exact hK _ _ _ _ _ h ad H locs ls h1 h2 h3 (scl.cons (h5 _ _ hx) h4) h5 h6 h7 hP hD hS hl
  · exact h.elim
theorem s_aload_n {d : TrD} {G : GX} {pc : Nat} {k : Fin 4} {i : Nat} (hd : decode d.2.1 pc = .ok (.aload_n k, 1)) (hi : (k : Nat) = i) : Snd d G pc (o_aload (pc + 1) i) := by
  intro p l e R s m args below meth c Z D cy ex A n0 ad0 Q C g K hK L st M b h ad H locs ls h1 h2 h3 h4 h5 h6 h7 hP hD hS hl
  unfold o_aload at h
  split at h
  · rename_i x hx
    have hx2 := xl_at hl hx
    refine lv_aload_n C.1 C.2.1 hd hi hx2 ?_
    exact hK _ _ _ _ _ h ad H locs ls h1 h2 h3 (scl.cons (h5 _ _ hx) h4) h5 h6 h7 hP hD hS hl
  · rename_i x hx
    have hx2 := xl_at hl hx
    refine lv_aload_n C.1 C.2.1 hd hi hx2 ?_
    exact hK _ _ _ _ _ h ad H locs ls h1 h2 h3 (scl.cons (h5 _ _ hx) h4) h5 h6 h7 hP hD hS hl
  · exact h.elim
theorem s_aload {d : TrD} {G : GX} {pc : Nat} {i : Nat} (hd : decode d.2.1 pc = .ok (.aload i, 2)) : Snd d G pc (o_aload (pc + 2) i) := by
  intro p l e R s m args below meth c Z D cy ex A n0 ad0 Q C g K hK L st M b h ad H locs ls h1 h2 h3 h4 h5 h6 h7 hP hD hS hl
  unfold o_aload at h
  split at h
  · rename_i x hx
    have hx2 := xl_at hl hx
    refine lv_aload C.1 C.2.1 hd  hx2 ?_
    exact hK _ _ _ _ _ h ad H locs ls h1 h2 h3 (scl.cons (h5 _ _ hx) h4) h5 h6 h7 hP hD hS hl
  · rename_i x hx
    have hx2 := xl_at hl hx
    refine lv_aload C.1 C.2.1 hd  hx2 ?_
    exact hK _ _ _ _ _ h ad H locs ls h1 h2 h3 (scl.cons (h5 _ _ hx) h4) h5 h6 h7 hP hD hS hl
  · exact h.elim
def o_istore (n i : Nat) : WOp := fun K Q L st M b => match st with
  | .int x :: st1' => K n (st1 L i (.int x)) st1' M b
  | _ => False
def o_lstore (n i : Nat) : WOp := fun K Q L st M b => match st with
  | .long x :: st1' => K n (st2 L i (.long x)) st1' M b
  | _ => False
def o_astore (n i : Nat) : WOp := fun K Q L st M b => match st with
  | .ref x :: st1' => K n (st1 L i (.ref x)) st1' M b
  | .float x :: st1' => K n (st1 L i (.float x)) st1' M b
  | _ => False
theorem s_istore_n {d : TrD} {G : GX} {pc : Nat} {k : Fin 4} {i : Nat} (hd : decode d.2.1 pc = .ok (.istore_n k, 1)) (hi : (k : Nat) = i) (hn : i < d.2.2.1) : Snd d G pc (o_istore (pc + 1) i) := by
  intro p l e R s m args below meth c Z D cy ex A n0 ad0 Q C g K hK L st M b h ad H locs ls h1 h2 h3 h4 h5 h6 h7 hP hD hS hl
  unfold o_istore at h
  split at h
  · rename_i x st1'
    refine lv_istore_n C.1 C.2.1 hd hi hl hn rfl (fun ls9 hl9 => ?_)
    exact hK _ _ _ _ _ h ad H locs ls9 h1 h2 h3 h4.tl (lcl_st1 h5 h4.hd) h6 h7 hP hD hS (xl_st1 (Or.inr trivial) hl9)
  · exact h.elim
theorem s_istore {d : TrD} {G : GX} {pc : Nat} {i : Nat} (hd : decode d.2.1 pc = .ok (.istore i, 2)) (hn : i < d.2.2.1) : Snd d G pc (o_istore (pc + 2) i) := by
  intro p l e R s m args below meth c Z D cy ex A n0 ad0 Q C g K hK L st M b h ad H locs ls h1 h2 h3 h4 h5 h6 h7 hP hD hS hl
  unfold o_istore at h
  split at h
  · rename_i x st1'
    refine lv_istore C.1 C.2.1 hd  hl hn rfl (fun ls9 hl9 => ?_)
    exact hK _ _ _ _ _ h ad H locs ls9 h1 h2 h3 h4.tl (lcl_st1 h5 h4.hd) h6 h7 hP hD hS (xl_st1 (Or.inr trivial) hl9)
  · exact h.elim
theorem s_lstore_n {d : TrD} {G : GX} {pc : Nat} {k : Fin 4} {i : Nat} (hd : decode d.2.1 pc = .ok (.lstore_n k, 1)) (hi : (k : Nat) = i) (hn : i + 1 < d.2.2.1) : Snd d G pc (o_lstore (pc + 1) i) := by
  intro p l e R s m args below meth c Z D cy ex A n0 ad0 Q C g K hK L st M b h ad H locs ls h1 h2 h3 h4 h5 h6 h7 hP hD hS hl
  unfold o_lstore at h
  split at h
  · rename_i x st1'
    refine lv_lstore_n C.1 C.2.1 hd hi hl hn rfl (fun ls9 hl9 => ?_)
    exact hK _ _ _ _ _ h ad H locs ls9 h1 h2 h3 h4.tl (lcl_st2 h5 h4.hd) h6 h7 hP hD hS (xl_st2 hl9)
  · exact h.elim
theorem s_lstore {d : TrD} {G : GX} {pc : Nat} {i : Nat} (hd : decode d.2.1 pc = .ok (.lstore i, 2)) (hn : i + 1 < d.2.2.1) : Snd d G pc (o_lstore (pc + 2) i) := by
  intro p l e R s m args below meth c Z D cy ex A n0 ad0 Q C g K hK L st M b h ad H locs ls h1 h2 h3 h4 h5 h6 h7 hP hD hS hl
  unfold o_lstore at h
  split at h
  · rename_i x st1'
    refine lv_lstore C.1 C.2.1 hd  hl hn rfl (fun ls9 hl9 => ?_)
    exact hK _ _ _ _ _ h ad H locs ls9 h1 h2 h3 h4.tl (lcl_st2 h5 h4.hd) h6 h7 hP hD hS (xl_st2 hl9)
  · exact h.elim
theorem s_astore_n {d : TrD} {G : GX} {pc : Nat} {k : Fin 4} {i : Nat} (hd : decode d.2.1 pc = .ok (.astore_n k, 1)) (hi : (k : Nat) = i) (hn : i < d.2.2.1) : Snd d G pc (o_astore (pc + 1) i) := by
  intro p l e R s m args below meth c Z D cy ex A n0 ad0 Q C g K hK L st M b h ad H locs ls h1 h2 h3 h4 h5 h6 h7 hP hD hS hl
  unfold o_astore at h
  split at h
  · rename_i x st1'
    refine lv_astore_n C.1 C.2.1 hd hi hl hn rfl (fun ls9 hl9 => ?_)
    exact hK _ _ _ _ _ h ad H locs ls9 h1 h2 h3 h4.tl (lcl_st1 h5 h4.hd) h6 h7 hP hD hS (xl_st1 (Or.inr trivial) hl9)
  · rename_i x st1'
    refine lv_astore_n C.1 C.2.1 hd hi hl hn rfl (fun ls9 hl9 => ?_)
    exact hK _ _ _ _ _ h ad H locs ls9 h1 h2 h3 h4.tl (lcl_st1 h5 h4.hd) h6 h7 hP hD hS (xl_st1 (Or.inr trivial) hl9)
  · exact h.elim
theorem s_astore {d : TrD} {G : GX} {pc : Nat} {i : Nat} (hd : decode d.2.1 pc = .ok (.astore i, 2)) (hn : i < d.2.2.1) : Snd d G pc (o_astore (pc + 2) i) := by
  intro p l e R s m args below meth c Z D cy ex A n0 ad0 Q C g K hK L st M b h ad H locs ls h1 h2 h3 h4 h5 h6 h7 hP hD hS hl
  unfold o_astore at h
  split at h
  · rename_i x st1'
    refine lv_astore C.1 C.2.1 hd  hl hn rfl (fun ls9 hl9 => ?_)
    exact hK _ _ _ _ _ h ad H locs ls9 h1 h2 h3 h4.tl (lcl_st1 h5 h4.hd) h6 h7 hP hD hS (xl_st1 (Or.inr trivial) hl9)
  · rename_i x st1'
    refine lv_astore C.1 C.2.1 hd  hl hn rfl (fun ls9 hl9 => ?_)
    exact hK _ _ _ _ _ h ad H locs ls9 h1 h2 h3 h4.tl (lcl_st1 h5 h4.hd) h6 h7 hP hD hS (xl_st1 (Or.inr trivial) hl9)
  · exact h.elim
def o_iinc (n i : Nat) (k : Int32) : WOp := fun K Q L st M b => match L[i]? with
  | some (some (.int x)) => K n (st1 L i (.int (x + k))) st M b
  | _ => False
theorem s_iinc {d : TrD} {G : GX} {pc : Nat} {i : Nat} {k : Int} {v : Int32} (hd : decode d.2.1 pc = .ok (.iinc i k, 3)) (hv : Int32.ofInt k = v) (hn : i < d.2.2.1) : Snd d G pc (o_iinc (pc + 3) i v) := by
  intro p l e R s m args below meth c Z D cy ex A n0 ad0 Q C g K hK L st M b h ad H locs ls h1 h2 h3 h4 h5 h6 h7 hP hD hS hl
  unfold o_iinc at h
  split at h
  · rename_i x hx
    obtain ⟨k9, hk9⟩ := List.getElem?_of_mem (xl_mem.mpr ⟨_, hx, rfl⟩ : (i, xv ad ex (.int x)) ∈ xl ad ex L)
    refine lv_iinc (v := x + v) C.1 C.2.1 hd hl hk9 (by rw [hv]) hn rfl (fun ls9 hl9 => ?_)
    exact hK _ _ _ _ _ h ad H locs ls9 h1 h2 h3 h4 (lcl_st1 h5 trivial) h6 h7 hP hD hS (xl_st1 (Or.inr trivial) hl9)
  · exact h.elim
def o_iadd (n : Nat) : WOp := fun K Q L st M b => match st with
  | .int y :: .int x :: st1 => K n L (.int (x + y) :: st1) M b
  | _ => False
theorem s_o_iadd {d : TrD} {G : GX} {pc : Nat} (hd : decode d.2.1 pc = .ok (.iadd, 1)) : Snd d G pc (o_iadd (pc + 1)) := by
  intro p l e R s m args below meth c Z D cy ex A n0 ad0 Q C g K hK L st M b h ad H locs ls h1 h2 h3 h4 h5 h6 h7 hP hD hS hl
  unfold o_iadd at h
  split at h
  · rename_i y x st1
    skip
    refine lv_iadd C.1 C.2.1 hd ?_
    exact hK _ _ _ _ _ h ad H locs ls h1 h2 h3 (scl.cons trivial h4.tl.tl) h5 h6 h7 hP hD hS hl
  · exact h.elim
def o_isub (n : Nat) : WOp := fun K Q L st M b => match st with
  | .int y :: .int x :: st1 => K n L (.int (x - y) :: st1) M b
  | _ => False
theorem s_o_isub {d : TrD} {G : GX} {pc : Nat} (hd : decode d.2.1 pc = .ok (.isub, 1)) : Snd d G pc (o_isub (pc + 1)) := by
  intro p l e R s m args below meth c Z D cy ex A n0 ad0 Q C g K hK L st M b h ad H locs ls h1 h2 h3 h4 h5 h6 h7 hP hD hS hl
  unfold o_isub at h
  split at h
  · rename_i y x st1
    skip
    refine lv_isub C.1 C.2.1 hd ?_
    exact hK _ _ _ _ _ h ad H locs ls h1 h2 h3 (scl.cons trivial h4.tl.tl) h5 h6 h7 hP hD hS hl
  · exact h.elim
def o_imul (n : Nat) : WOp := fun K Q L st M b => match st with
  | .int y :: .int x :: st1 => K n L (.int (x * y) :: st1) M b
  | _ => False
theorem s_o_imul {d : TrD} {G : GX} {pc : Nat} (hd : decode d.2.1 pc = .ok (.imul, 1)) : Snd d G pc (o_imul (pc + 1)) := by
  intro p l e R s m args below meth c Z D cy ex A n0 ad0 Q C g K hK L st M b h ad H locs ls h1 h2 h3 h4 h5 h6 h7 hP hD hS hl
  unfold o_imul at h
  split at h
  · rename_i y x st1
    skip
    refine lv_imul C.1 C.2.1 hd ?_
    exact hK _ _ _ _ _ h ad H locs ls h1 h2 h3 (scl.cons trivial h4.tl.tl) h5 h6 h7 hP hD hS hl
  · exact h.elim
def o_iand (n : Nat) : WOp := fun K Q L st M b => match st with
  | .int y :: .int x :: st1 => K n L (.int (x &&& y) :: st1) M b
  | _ => False
theorem s_o_iand {d : TrD} {G : GX} {pc : Nat} (hd : decode d.2.1 pc = .ok (.iand, 1)) : Snd d G pc (o_iand (pc + 1)) := by
  intro p l e R s m args below meth c Z D cy ex A n0 ad0 Q C g K hK L st M b h ad H locs ls h1 h2 h3 h4 h5 h6 h7 hP hD hS hl
  unfold o_iand at h
  split at h
  · rename_i y x st1
    skip
    refine lv_iand C.1 C.2.1 hd ?_
    exact hK _ _ _ _ _ h ad H locs ls h1 h2 h3 (scl.cons trivial h4.tl.tl) h5 h6 h7 hP hD hS hl
  · exact h.elim
def o_idiv (n : Nat) : WOp := fun K Q L st M b => match st with
  | .int y :: .int x :: st1 => ¬ y = 0 ∧ K n L (.int (x / y) :: st1) M b
  | _ => False
theorem s_o_idiv {d : TrD} {G : GX} {pc : Nat} (hd : decode d.2.1 pc = .ok (.idiv, 1)) : Snd d G pc (o_idiv (pc + 1)) := by
  intro p l e R s m args below meth c Z D cy ex A n0 ad0 Q C g K hK L st M b h ad H locs ls h1 h2 h3 h4 h5 h6 h7 hP hD hS hl
  unfold o_idiv at h
  split at h
  · rename_i y x st1
    skip
    refine lv_idiv C.1 C.2.1 hd h.1 ?_
    exact hK _ _ _ _ _ h.2 ad H locs ls h1 h2 h3 (scl.cons trivial h4.tl.tl) h5 h6 h7 hP hD hS hl
  · exact h.elim
def o_irem (n : Nat) : WOp := fun K Q L st M b => match st with
  | .int y :: .int x :: st1 => ¬ y = 0 ∧ K n L (.int (x % y) :: st1) M b
  | _ => False
theorem s_o_irem {d : TrD} {G : GX} {pc : Nat} (hd : decode d.2.1 pc = .ok (.irem, 1)) : Snd d G pc (o_irem (pc + 1)) := by
  intro p l e R s m args below meth c Z D cy ex A n0 ad0 Q C g K hK L st M b h ad H locs ls h1 h2 h3 h4 h5 h6 h7 hP hD hS hl
  unfold o_irem at h
  split at h
  · rename_i y x st1
    refine lv_irem C.1 C.2.1 hd h.1 ?_
    rw [irem_eq_mod]
    exact hK _ _ _ _ _ h.2 ad H locs ls h1 h2 h3 (scl.cons trivial h4.tl.tl) h5 h6 h7 hP hD hS hl
  · exact h.elim
def o_ineg (n : Nat) : WOp := fun K Q L st M b => match st with
  | .int x :: st1 => K n L (.int (-x) :: st1) M b
  | _ => False
theorem s_o_ineg {d : TrD} {G : GX} {pc : Nat} (hd : decode d.2.1 pc = .ok (.ineg, 1)) : Snd d G pc (o_ineg (pc + 1)) := by
  intro p l e R s m args below meth c Z D cy ex A n0 ad0 Q C g K hK L st M b h ad H locs ls h1 h2 h3 h4 h5 h6 h7 hP hD hS hl
  unfold o_ineg at h
  split at h
  · rename_i x st1
    skip
    refine lv_ineg C.1 C.2.1 hd ?_
    exact hK _ _ _ _ _ h ad H locs ls h1 h2 h3 (scl.cons trivial h4.tl) h5 h6 h7 hP hD hS hl
  · exact h.elim
def o_ladd (n : Nat) : WOp := fun K Q L st M b => match st with
  | .long y :: .long x :: st1 => K n L (.long (x + y) :: st1) M b
  | _ => False
theorem s_o_ladd {d : TrD} {G : GX} {pc : Nat} (hd : decode d.2.1 pc = .ok (.ladd, 1)) : Snd d G pc (o_ladd (pc + 1)) := by
  intro p l e R s m args below meth c Z D cy ex A n0 ad0 Q C g K hK L st M b h ad H locs ls h1 h2 h3 h4 h5 h6 h7 hP hD hS hl
  unfold o_ladd at h
  split at h
  · rename_i y x st1
    skip
    refine lv_ladd C.1 C.2.1 hd ?_
    exact hK _ _ _ _ _ h ad H locs ls h1 h2 h3 (scl.cons trivial h4.tl.tl) h5 h6 h7 hP hD hS hl
  · exact h.elim
def o_lmul (n : Nat) : WOp := fun K Q L st M b => match st with
  | .long y :: .long x :: st1 => K n L (.long (x * y) :: st1) M b
  | _ => False
theorem s_o_lmul {d : TrD} {G : GX} {pc : Nat} (hd : decode d.2.1 pc = .ok (.lmul, 1)) : Snd d G pc (o_lmul (pc + 1)) := by
  intro p l e R s m args below meth c Z D cy ex A n0 ad0 Q C g K hK L st M b h ad H locs ls h1 h2 h3 h4 h5 h6 h7 hP hD hS hl
  unfold o_lmul at h
  split at h
  · rename_i y x st1
    skip
    refine lv_lmul C.1 C.2.1 hd ?_
    exact hK _ _ _ _ _ h ad H locs ls h1 h2 h3 (scl.cons trivial h4.tl.tl) h5 h6 h7 hP hD hS hl
  · exact h.elim
def o_lcmp (n : Nat) : WOp := fun K Q L st M b => match st with
  | .long y :: .long x :: st1 => K n L (.int (lg_cmp x y) :: st1) M b
  | _ => False
theorem s_o_lcmp {d : TrD} {G : GX} {pc : Nat} (hd : decode d.2.1 pc = .ok (.lcmp, 1)) : Snd d G pc (o_lcmp (pc + 1)) := by
  intro p l e R s m args below meth c Z D cy ex A n0 ad0 Q C g K hK L st M b h ad H locs ls h1 h2 h3 h4 h5 h6 h7 hP hD hS hl
  unfold o_lcmp at h
  split at h
  · rename_i y x st1
    skip
    refine W.lcmp C.1 C.2.1 hd ?_
    exact hK _ _ _ _ _ h ad H locs ls h1 h2 h3 (scl.cons trivial h4.tl.tl) h5 h6 h7 hP hD hS hl
  · exact h.elim
def o_i2l (n : Nat) : WOp := fun K Q L st M b => match st with
  | .int x :: st1 => K n L (.long x.toInt64 :: st1) M b
  | _ => False
theorem s_o_i2l {d : TrD} {G : GX} {pc : Nat} (hd : decode d.2.1 pc = .ok (.i2l, 1)) : Snd d G pc (o_i2l (pc + 1)) := by
  intro p l e R s m args below meth c Z D cy ex A n0 ad0 Q C g K hK L st M b h ad H locs ls h1 h2 h3 h4 h5 h6 h7 hP hD hS hl
  unfold o_i2l at h
  split at h
  · rename_i x st1
    skip
    refine lv_i2l C.1 C.2.1 hd rfl ?_
    exact hK _ _ _ _ _ h ad H locs ls h1 h2 h3 (scl.cons trivial h4.tl) h5 h6 h7 hP hD hS hl
  · exact h.elim
def o_i2b (n : Nat) : WOp := fun K Q L st M b => match st with
  | .int x :: st1 => K n L (.int x.toInt8.toInt32 :: st1) M b
  | _ => False
theorem s_o_i2b {d : TrD} {G : GX} {pc : Nat} (hd : decode d.2.1 pc = .ok (.i2b, 1)) : Snd d G pc (o_i2b (pc + 1)) := by
  intro p l e R s m args below meth c Z D cy ex A n0 ad0 Q C g K hK L st M b h ad H locs ls h1 h2 h3 h4 h5 h6 h7 hP hD hS hl
  unfold o_i2b at h
  split at h
  · rename_i x st1
    skip
    refine lv_i2b C.1 C.2.1 hd rfl ?_
    exact hK _ _ _ _ _ h ad H locs ls h1 h2 h3 (scl.cons trivial h4.tl) h5 h6 h7 hP hD hS hl
  · exact h.elim
def o_dup (n : Nat) : WOp := fun K Q L st M b => match st with
  | v :: st1 => match Nat.beq v.category 1 with
    | true => K n L (v :: v :: st1) M b
    | false => False
  | _ => False
theorem s_o_dup {d : TrD} {G : GX} {pc : Nat} (hd : decode d.2.1 pc = .ok (.dup, 1)) : Snd d G pc (o_dup (pc + 1)) := by
  intro p l e R s m args below meth c Z D cy ex A n0 ad0 Q C g K hK L st M b h ad H locs ls h1 h2 h3 h4 h5 h6 h7 hP hD hS hl
  unfold o_dup at h
  split at h
  · rename_i v st1
    split at h
    · rename_i hc
      refine lv_dup C.1 C.2.1 hd (by rw [xv_cat]; exact Nat.eq_of_beq_eq_true hc) ?_
      exact hK _ _ _ _ _ h ad H locs ls h1 h2 h3 (scl.cons h4.hd h4) h5 h6 h7 hP hD hS hl
    · exact h.elim
  · exact h.elim
def o_pop (n : Nat) : WOp := fun K Q L st M b => match st with
  | v :: st1 => match Nat.beq v.category 1 with
    | true => K n L st1 M b
    | false => False
  | _ => False
theorem s_o_pop {d : TrD} {G : GX} {pc : Nat} (hd : decode d.2.1 pc = .ok (.pop, 1)) : Snd d G pc (o_pop (pc + 1)) := by
  intro p l e R s m args below meth c Z D cy ex A n0 ad0 Q C g K hK L st M b h ad H locs ls h1 h2 h3 h4 h5 h6 h7 hP hD hS hl
  unfold o_pop at h
  split at h
  · rename_i v st1
    split at h
    · rename_i hc
      refine lv_pop C.1 C.2.1 hd (by rw [xv_cat]; exact Nat.eq_of_beq_eq_true hc) ?_
      exact hK _ _ _ _ _ h ad H locs ls h1 h2 h3 h4.tl h5 h6 h7 hP hD hS hl
    · exact h.elim
  · exact h.elim
def o_dup2 (n : Nat) : WOp := fun K Q L st M b => match st with
  | v :: w :: st1 => match Nat.beq v.category 1, Nat.beq w.category 1 with
    | true, true => K n L (v :: w :: v :: w :: st1) M b
    | _, _ => False
  | _ => False
theorem s_o_dup2 {d : TrD} {G : GX} {pc : Nat} (hd : decode d.2.1 pc = .ok (.dup2, 1)) : Snd d G pc (o_dup2 (pc + 1)) := by
  intro p l e R s m args below meth c Z D cy ex A n0 ad0 Q C g K hK L st M b h ad H locs ls h1 h2 h3 h4 h5 h6 h7 hP hD hS hl
  unfold o_dup2 at h
  split at h
  · rename_i v w st1
    split at h
    · rename_i hc hc2
      refine lv_dup2_11 C.1 C.2.1 hd (by rw [xv_cat]; exact Nat.eq_of_beq_eq_true hc) (by rw [xv_cat]; exact Nat.eq_of_beq_eq_true hc2) ?_
      exact hK _ _ _ _ _ h ad H locs ls h1 h2 h3 (scl.cons h4.hd (scl.cons h4.tl.hd h4)) h5 h6 h7 hP hD hS hl
    · exact h.elim
  · exact h.elim
def o_if_eq (t n : Nat) : WOp := fun K Q L st M b => match st with
  | .int x :: st1 => (x = 0 → K t L st1 M b) ∧ (¬ x = 0 → K n L st1 M b)
  | _ => False
theorem s_o_if_eq {d : TrD} {G : GX} {pc : Nat} {off : Int} {t : Nat} (hd : decode d.2.1 pc = .ok (.ifCond .eq off, 3)) (ht : (pc : Int) + off = (t : Int)) : Snd d G pc (o_if_eq t (pc + 3)) := by
  intro p l e R s m args below meth c Z D cy ex A n0 ad0 Q C g K hK L st M b h ad H locs ls h1 h2 h3 h4 h5 h6 h7 hP hD hS hl
  unfold o_if_eq at h
  split at h
  · rename_i x st1
    refine lv_if_eq C.1 C.2.1 hd ht (fun q => ?_) (fun q => ?_)
    · exact hK _ _ _ _ _ (h.1 q) ad H locs ls h1 h2 h3 h4.tl h5 h6 h7 hP hD hS hl
    · exact hK _ _ _ _ _ (h.2 q) ad H locs ls h1 h2 h3 h4.tl h5 h6 h7 hP hD hS hl
  · exact h.elim
def o_if_ne (t n : Nat) : WOp := fun K Q L st M b => match st with
  | .int x :: st1 => (¬ x = 0 → K t L st1 M b) ∧ (x = 0 → K n L st1 M b)
  | _ => False
theorem s_o_if_ne {d : TrD} {G : GX} {pc : Nat} {off : Int} {t : Nat} (hd : decode d.2.1 pc = .ok (.ifCond .ne off, 3)) (ht : (pc : Int) + off = (t : Int)) : Snd d G pc (o_if_ne t (pc + 3)) := by
  intro p l e R s m args below meth c Z D cy ex A n0 ad0 Q C g K hK L st M b h ad H locs ls h1 h2 h3 h4 h5 h6 h7 hP hD hS hl
  unfold o_if_ne at h
  split at h
  · rename_i x st1
    refine lv_if_ne C.1 C.2.1 hd ht (fun q => ?_) (fun q => ?_)
    · exact hK _ _ _ _ _ (h.1 q) ad H locs ls h1 h2 h3 h4.tl h5 h6 h7 hP hD hS hl
    · exact hK _ _ _ _ _ (h.2 q) ad H locs ls h1 h2 h3 h4.tl h5 h6 h7 hP hD hS hl
  · exact h.elim
def o_if_lt (t n : Nat) : WOp := fun K Q L st M b => match st with
  | .int x :: st1 => (x < 0 → K t L st1 M b) ∧ (¬ x < 0 → K n L st1 M b)
  | _ => False
theorem s_o_if_lt {d : TrD} {G : GX} {pc : Nat} {off : Int} {t : Nat} (hd : decode d.2.1 pc = .ok (.ifCond .lt off, 3)) (ht : (pc : Int) + off = (t : Int)) : Snd d G pc (o_if_lt t (pc + 3)) := by
  intro p l e R s m args below meth c Z D cy ex A n0 ad0 Q C g K hK L st M b h ad H locs ls h1 h2 h3 h4 h5 h6 h7 hP hD hS hl
  unfold o_if_lt at h
  split at h
  · rename_i x st1
    refine lv_if_lt C.1 C.2.1 hd ht (fun q => ?_) (fun q => ?_)
    · exact hK _ _ _ _ _ (h.1 q) ad H locs ls h1 h2 h3 h4.tl h5 h6 h7 hP hD hS hl
    · exact hK _ _ _ _ _ (h.2 q) ad H locs ls h1 h2 h3 h4.tl h5 h6 h7 hP hD hS hl
  · exact h.elim
def o_if_ge (t n : Nat) : WOp := fun K Q L st M b => match st with
  | .int x :: st1 => (0 ≤ x → K t L st1 M b) ∧ (¬ 0 ≤ x → K n L st1 M b)
  | _ => False
theorem s_o_if_ge {d : TrD} {G : GX} {pc : Nat} {off : Int} {t : Nat} (hd : decode d.2.1 pc = .ok (.ifCond .ge off, 3)) (ht : (pc : Int) + off = (t : Int)) : Snd d G pc (o_if_ge t (pc + 3)) := by
  intro p l e R s m args below meth c Z D cy ex A n0 ad0 Q C g K hK L st M b h ad H locs ls h1 h2 h3 h4 h5 h6 h7 hP hD hS hl
  unfold o_if_ge at h
  split at h
  · rename_i x st1
    refine lv_if_ge C.1 C.2.1 hd ht (fun q => ?_) (fun q => ?_)
    · exact hK _ _ _ _ _ (h.1 q) ad H locs ls h1 h2 h3 h4.tl h5 h6 h7 hP hD hS hl
    · exact hK _ _ _ _ _ (h.2 q) ad H locs ls h1 h2 h3 h4.tl h5 h6 h7 hP hD hS hl
  · exact h.elim
def o_if_gt (t n : Nat) : WOp := fun K Q L st M b => match st with
  | .int x :: st1 => (0 < x → K t L st1 M b) ∧ (¬ 0 < x → K n L st1 M b)
  | _ => False
theorem s_o_if_gt {d : TrD} {G : GX} {pc : Nat} {off : Int} {t : Nat} (hd : decode d.2.1 pc = .ok (.ifCond .gt off, 3)) (ht : (pc : Int) + off = (t : Int)) : Snd d G pc (o_if_gt t (pc + 3)) := by
  intro p l e R s m args below meth c Z D cy ex A n0 ad0 Q C g K hK L st M b h ad H locs ls h1 h2 h3 h4 h5 h6 h7 hP hD hS hl
  unfold o_if_gt at h
  split at h
  · rename_i x st1
    refine lv_if_gt C.1 C.2.1 hd ht (fun q => ?_) (fun q => ?_)
    · exact hK _ _ _ _ _ (h.1 q) ad H locs ls h1 h2 h3 h4.tl h5 h6 h7 hP hD hS hl
    · exact hK _ _ _ _ _ (h.2 q) ad H locs ls h1 h2 h3 h4.tl h5 h6 h7 hP hD hS hl
  · exact h.elim
def o_if_le (t n : Nat) : WOp := fun K Q L st M b => match st with
  | .int x :: st1 => (x ≤ 0 → K t L st1 M b) ∧ (¬ x ≤ 0 → K n L st1 M b)
  | _ => False
theorem s_o_if_le {d : TrD} {G : GX} {pc : Nat} {off : Int} {t : Nat} (hd : decode d.2.1 pc = .ok (.ifCond .le off, 3)) (ht : (pc : Int) + off = (t : Int)) : Snd d G pc (o_if_le t (pc + 3)) := by
  intro p l e R s m args below meth c Z D cy ex A n0 ad0 Q C g K hK L st M b h ad H locs ls h1 h2 h3 h4 h5 h6 h7 hP hD hS hl
  unfold o_if_le at h
  split at h
  · rename_i x st1
    refine lv_if_le C.1 C.2.1 hd ht (fun q => ?_) (fun q => ?_)
    · exact hK _ _ _ _ _ (h.1 q) ad H locs ls h1 h2 h3 h4.tl h5 h6 h7 hP hD hS hl
    · exact hK _ _ _ _ _ (h.2 q) ad H locs ls h1 h2 h3 h4.tl h5 h6 h7 hP hD hS hl
  · exact h.elim
def o_icmp_eq (t n : Nat) : WOp := fun K Q L st M b => match st with
  | .int y :: .int x :: st1 => (x = y → K t L st1 M b) ∧ (¬ x = y → K n L st1 M b)
  | _ => False
theorem s_o_icmp_eq {d : TrD} {G : GX} {pc : Nat} {off : Int} {t : Nat} (hd : decode d.2.1 pc = .ok (.if_icmp .eq off, 3)) (ht : (pc : Int) + off = (t : Int)) : Snd d G pc (o_icmp_eq t (pc + 3)) := by
  intro p l e R s m args below meth c Z D cy ex A n0 ad0 Q C g K hK L st M b h ad H locs ls h1 h2 h3 h4 h5 h6 h7 hP hD hS hl
  unfold o_icmp_eq at h
  split at h
  · rename_i y x st1
    refine lv_icmp_eq C.1 C.2.1 hd ht (fun q => ?_) (fun q => ?_)
    · exact hK _ _ _ _ _ (h.1 q) ad H locs ls h1 h2 h3 h4.tl.tl h5 h6 h7 hP hD hS hl
    · exact hK _ _ _ _ _ (h.2 q) ad H locs ls h1 h2 h3 h4.tl.tl h5 h6 h7 hP hD hS hl
  · exact h.elim
def o_icmp_ne (t n : Nat) : WOp := fun K Q L st M b => match st with
  | .int y :: .int x :: st1 => (¬ x = y → K t L st1 M b) ∧ (x = y → K n L st1 M b)
  | _ => False
theorem s_o_icmp_ne {d : TrD} {G : GX} {pc : Nat} {off : Int} {t : Nat} (hd : decode d.2.1 pc = .ok (.if_icmp .ne off, 3)) (ht : (pc : Int) + off = (t : Int)) : Snd d G pc (o_icmp_ne t (pc + 3)) := by
  intro p l e R s m args below meth c Z D cy ex A n0 ad0 Q C g K hK L st M b h ad H locs ls h1 h2 h3 h4 h5 h6 h7 hP hD hS hl
  unfold o_icmp_ne at h
  split at h
  · rename_i y x st1
    refine lv_icmp_ne C.1 C.2.1 hd ht (fun q => ?_) (fun q => ?_)
    · exact hK _ _ _ _ _ (h.1 q) ad H locs ls h1 h2 h3 h4.tl.tl h5 h6 h7 hP hD hS hl
    · exact hK _ _ _ _ _ (h.2 q) ad H locs ls h1 h2 h3 h4.tl.tl h5 h6 h7 hP hD hS hl
  · exact h.elim
def o_icmp_lt (t n : Nat) : WOp := fun K Q L st M b => match st with
  | .int y :: .int x :: st1 => (x < y → K t L st1 M b) ∧ (¬ x < y → K n L st1 M b)
  | _ => False
theorem s_o_icmp_lt {d : TrD} {G : GX} {pc : Nat} {off : Int} {t : Nat} (hd : decode d.2.1 pc = .ok (.if_icmp .lt off, 3)) (ht : (pc : Int) + off = (t : Int)) : Snd d G pc (o_icmp_lt t (pc + 3)) := by
  intro p l e R s m args below meth c Z D cy ex A n0 ad0 Q C g K hK L st M b h ad H locs ls h1 h2 h3 h4 h5 h6 h7 hP hD hS hl
  unfold o_icmp_lt at h
  split at h
  · rename_i y x st1
    refine lv_icmp_lt C.1 C.2.1 hd ht (fun q => ?_) (fun q => ?_)
    · exact hK _ _ _ _ _ (h.1 q) ad H locs ls h1 h2 h3 h4.tl.tl h5 h6 h7 hP hD hS hl
    · exact hK _ _ _ _ _ (h.2 q) ad H locs ls h1 h2 h3 h4.tl.tl h5 h6 h7 hP hD hS hl
  · exact h.elim
def o_icmp_ge (t n : Nat) : WOp := fun K Q L st M b => match st with
  | .int y :: .int x :: st1 => (y ≤ x → K t L st1 M b) ∧ (¬ y ≤ x → K n L st1 M b)
  | _ => False
theorem s_o_icmp_ge {d : TrD} {G : GX} {pc : Nat} {off : Int} {t : Nat} (hd : decode d.2.1 pc = .ok (.if_icmp .ge off, 3)) (ht : (pc : Int) + off = (t : Int)) : Snd d G pc (o_icmp_ge t (pc + 3)) := by
  intro p l e R s m args below meth c Z D cy ex A n0 ad0 Q C g K hK L st M b h ad H locs ls h1 h2 h3 h4 h5 h6 h7 hP hD hS hl
  unfold o_icmp_ge at h
  split at h
  · rename_i y x st1
    refine lv_icmp_ge C.1 C.2.1 hd ht (fun q => ?_) (fun q => ?_)
    · exact hK _ _ _ _ _ (h.1 q) ad H locs ls h1 h2 h3 h4.tl.tl h5 h6 h7 hP hD hS hl
    · exact hK _ _ _ _ _ (h.2 q) ad H locs ls h1 h2 h3 h4.tl.tl h5 h6 h7 hP hD hS hl
  · exact h.elim
def o_icmp_gt (t n : Nat) : WOp := fun K Q L st M b => match st with
  | .int y :: .int x :: st1 => (y < x → K t L st1 M b) ∧ (¬ y < x → K n L st1 M b)
  | _ => False
theorem s_o_icmp_gt {d : TrD} {G : GX} {pc : Nat} {off : Int} {t : Nat} (hd : decode d.2.1 pc = .ok (.if_icmp .gt off, 3)) (ht : (pc : Int) + off = (t : Int)) : Snd d G pc (o_icmp_gt t (pc + 3)) := by
  intro p l e R s m args below meth c Z D cy ex A n0 ad0 Q C g K hK L st M b h ad H locs ls h1 h2 h3 h4 h5 h6 h7 hP hD hS hl
  unfold o_icmp_gt at h
  split at h
  · rename_i y x st1
    refine lv_icmp_gt C.1 C.2.1 hd ht (fun q => ?_) (fun q => ?_)
    · exact hK _ _ _ _ _ (h.1 q) ad H locs ls h1 h2 h3 h4.tl.tl h5 h6 h7 hP hD hS hl
    · exact hK _ _ _ _ _ (h.2 q) ad H locs ls h1 h2 h3 h4.tl.tl h5 h6 h7 hP hD hS hl
  · exact h.elim
def o_icmp_le (t n : Nat) : WOp := fun K Q L st M b => match st with
  | .int y :: .int x :: st1 => (x ≤ y → K t L st1 M b) ∧ (¬ x ≤ y → K n L st1 M b)
  | _ => False
theorem s_o_icmp_le {d : TrD} {G : GX} {pc : Nat} {off : Int} {t : Nat} (hd : decode d.2.1 pc = .ok (.if_icmp .le off, 3)) (ht : (pc : Int) + off = (t : Int)) : Snd d G pc (o_icmp_le t (pc + 3)) := by
  intro p l e R s m args below meth c Z D cy ex A n0 ad0 Q C g K hK L st M b h ad H locs ls h1 h2 h3 h4 h5 h6 h7 hP hD hS hl
  unfold o_icmp_le at h
  split at h
  · rename_i y x st1
    refine lv_icmp_le C.1 C.2.1 hd ht (fun q => ?_) (fun q => ?_)
    · exact hK _ _ _ _ _ (h.1 q) ad H locs ls h1 h2 h3 h4.tl.tl h5 h6 h7 hP hD hS hl
    · exact hK _ _ _ _ _ (h.2 q) ad H locs ls h1 h2 h3 h4.tl.tl h5 h6 h7 hP hD hS hl
  · exact h.elim
def o_goto (t : Nat) : WOp := fun K Q L st M b => K t L st M b
theorem s_o_goto {d : TrD} {G : GX} {pc : Nat} {off : Int} {t : Nat} (hd : decode d.2.1 pc = .ok (.goto off, 3)) (ht : (pc : Int) + off = (t : Int)) : Snd d G pc (o_goto t) := by
  intro p l e R s m args below meth c Z D cy ex A n0 ad0 Q C g K hK L st M b h ad H locs ls h1 h2 h3 h4 h5 h6 h7 hP hD hS hl
  refine lv_goto C.1 C.2.1 hd ht ?_
  exact hK _ _ _ _ _ h ad H locs ls h1 h2 h3 h4 h5 h6 h7 hP hD hS hl
end
section
/-! ===== fields and arrays ===== -/
def ClOk (ci : Nat) (C : String) (T : u_T) (N : Nat) (ty : Nat → FieldType) : Prop := vwCl[ci]? = some (C, T, N) ∧ (∀ w ∈ u_ws C T N, w ∈ WG) ∧ (∀ k, k < N → parseFieldDescriptor (T k).2.2.1 = some (ty k)) ∧ (∀ a, a < N → ∀ b, b < N → a ≠ b → (T a).2.1 ≠ (T b).2.1)
def o_getf (n ci k : Nat) : WOp := fun K Q L st M b => match st with
  | .ref i :: st1 => match M[i]? with
    | some (.inr (ci', fs)) => match Nat.beq ci' ci with
      | true => match fs[k]? with
        | some v => K n L (v :: st1) M b
        | none => False
      | false => False
    | _ => False
  | _ => False
theorem s_getf {d : TrD} {G : GX} {pc ix ci k : Nat} {C : String} {T : u_T} {N : Nat} {ty : Nat → FieldType} (ok : ClOk ci C T N ty) (hk : k < N) (hd : decode d.2.1 pc = .ok (.getfield ix, 3)) (hw : Cond.fieldLink d.1.cls ix (T k).1 (T k).2.1 (T k).2.2.1 ∈ WG) : Snd d G pc (o_getf (pc + 3) ci k) := by
  intro p l e R s m args below meth c Z D cy ex A n0 ad0 Q C' g K hK L st M b h ad H locs ls h1 h2 h3 h4 h5 h6 h7 hP hD hS hl
  unfold o_getf at h
  split at h
  · rename_i i st1
    split at h
    · rename_i ci' fs hM
      split at h
      · rename_i hb
        cases Nat.eq_of_beq_eq_true hb
        split at h
        · rename_i v hv
          have hq := xw_at (cy := cy) (ad := ad) (ex := ex) hM
          refine va_get (D := D) (ci := ci) (v := xv ad ex v) C'.1 C'.2.1 C'.2.2.2.2.1 ok.2.1 C'.2.2.2.1 C'.2.2.2.2.2.1 hP i (fs := fs.map (xv ad ex)) hq ok.1 k hk (C'.2.2.2.2.1 _ hw) (fun _ q => q) (by rw [List.getElem?_map, hv]; rfl) hd ?_
          exact hK _ _ _ _ _ h ad H locs ls h1 h2 h3 (scl.cons ((h3.at hM) v (List.mem_of_getElem? hv)) h4.tl) h5 h6 h7 hP hD hS hl
        · exact h.elim
      · exact h.elim
    · exact h.elim
  · exact h.elim
/-- what goes on behind a change of one cell -/
theorem XX_set {p : Program} {l : Launch} {e : Env} {R : Room} {s : State} {m : MethodId} {args : Array Value} {below : List Frame} {meth : Method} {c : Code} {Z : State → Prop} {D : va_G} {cy ex : Nat → Nat} {A : Nat → Prop} {n0 : Nat} {ad0 : Nat → Nat} {nL pc : Nat} {L : AL} {st : List Value} {M : AM} {b : AB} {i : Nat} {o : AO} {ad : Nat → Nat} {H1 : Heap} {locs1 : List Loc} {ls : Array Slot}
    (h : XX p l e R s m args below meth c Z D cy ex A n0 ad0 nL pc L st (M.set i o) b) (h1 : Agr n0 ad0 ad) (h2 : n0 ≤ M.length) (h3 : mcl M) (ho : ocl M.length o) (h4 : scl M.length st) (h5 : lcl M.length L) (h6 : b.1 ≤ R.cells) (h7 : b.2 ≤ R.slots)
    (hP : va_P D vwCl ((xw cy ad ex M).set i (ad i, xo cy ad ex o)) H1) (hD : va_D A ((xw cy ad ex M).set i (ad i, xo cy ad ex o))) (hS : va_S A s.heap H1 locs1) (hl : lv_has ls nL (xl ad ex L)) : W p l e R s m args below meth c H1 locs1 (R.cells - b.1) (R.slots - b.2) Z (F0 m pc ls (st.map (xv ad ex))) := by
  have e : (M.set i o).length = M.length := List.length_set
  exact h ad H1 locs1 ls h1 (by rw [e]; exact h2) (h3.set ho) (by rw [e]; exact h4) (by rw [e]; exact h5) h6 h7 (by rw [← xw_set]; exact hP) (by rw [← xw_set]; exact hD) hS hl
/-- v fits a field of the type ty -/
def fitV (ty : FieldType) (v : Value) : Prop := match ty, v with
  | .int, .int _ => True
  | .boolean, .int x => x = 0 ∨ x = 1
  | .long, .long _ => True
  | .object _, .ref _ => True
  | .object _, .float _ => True
  | .array _, .ref _ => True
  | _, _ => False
theorem fitV_ok {ty : FieldType} {v : Value} {ad ex : Nat → Nat} (h : fitV ty v) : narrow ty (xv ad ex v) = xv ad ex v ∧ fits ty (xv ad ex v) = true := by
  cases ty <;> cases v <;> first | exact h.elim | exact ⟨rfl, rfl⟩ | (rcases h with h | h <;> subst h <;> exact ⟨rfl, rfl⟩)
def o_putf (n ci k : Nat) (ty : FieldType) : WOp := fun K Q L st M b => match st with
  | v :: .ref i :: st1 => match M[i]? with
    | some (.inr (ci', fs)) => match Nat.beq ci' ci with
      | true => match Nat.ble (k + 1) fs.length with
        | true => fitV ty v ∧ K n L st1 (M.set i (.inr (ci, fs.set k v))) b
        | false => False
      | false => False
    | _ => False
  | _ => False
/-- a put of a value that always fits -/
def o_puti (n ci k : Nat) : WOp := fun K Q L st M b => match st with
  | .int x :: .ref i :: st1 => match M[i]? with
    | some (.inr (ci', fs)) => match Nat.beq ci' ci with
      | true => match Nat.ble (k + 1) fs.length with
        | true => K n L st1 (M.set i (.inr (ci, fs.set k (.int x)))) b
        | false => False
      | false => False
    | _ => False
  | _ => False
theorem s_putf {d : TrD} {G : GX} {pc ix ci k : Nat} {C : String} {T : u_T} {N : Nat} {ty : Nat → FieldType} {ty1 : FieldType} (ok : ClOk ci C T N ty) (hk : k < N) (hty : ty k = ty1) (hfin : (T k).2.2.2 = false ∨ ((T k).2.2.2 = true ∧ d.1.name = "<init>" ∧ (T k).1 = d.1.cls)) (hd : decode d.2.1 pc = .ok (.putfield ix, 3)) (hw : Cond.fieldLink d.1.cls ix (T k).1 (T k).2.1 (T k).2.2.1 ∈ WG) : Snd d G pc (o_putf (pc + 3) ci k ty1) := by
  intro p l e R s m args below meth c Z D cy ex A n0 ad0 Q C' g K hK L st M b h ad H locs ls h1 h2 h3 h4 h5 h6 h7 hP hD hS hl
  unfold o_putf at h
  split at h
  · rename_i v i st1
    split at h
    · rename_i ci' fs hM
      split at h
      · rename_i hb
        cases Nat.eq_of_beq_eq_true hb
        split at h
        · rename_i hlen
          have hlen2 : k < fs.length := Nat.le_of_ble_eq_true hlen
          have hq := xw_at (cy := cy) (ad := ad) (ex := ex) hM
          have hpd : parseFieldDescriptor (T k).2.2.1 = some ty1 := by rw [ok.2.2.1 k hk, hty]
          obtain ⟨hn, hf⟩ := fitV_ok (ad := ad) (ex := ex) h.1
          have ho : ocl M.length (.inr (ci, fs.set k v)) := fun w hw => by
            rcases List.mem_or_eq_of_mem_set hw with q | q
            · exact (h3.at hM) w q
            · rw [q]; exact h4.hd
          have eq : (Sum.inr (ci, (fs.map (xv ad ex)).set k (xv ad ex v)) : va_E) = xo cy ad ex (.inr (ci, fs.set k v)) := by
            show _ = (Sum.inr (ci, (fs.set k v).map (xv ad ex)) : va_E)
            rw [List.map_set]
          have key : ∀ (H1 : Heap) (locs1 : List Loc), va_P D vwCl ((xw cy ad ex M).set i (ad i, .inr (ci, (fs.map (xv ad ex)).set k (xv ad ex v)))) H1 → va_D A ((xw cy ad ex M).set i (ad i, .inr (ci, (fs.map (xv ad ex)).set k (xv ad ex v)))) → va_S A s.heap H1 locs1 → W p l e R s m args below meth c H1 locs1 (R.cells - b.1) (R.slots - b.2) Z (F0 m (pc + 3) ls (st1.map (xv ad ex))) := by
            intro H1 locs1 hP1 hD1 hS1
            rw [eq] at hP1 hD1
            exact XX_set (hK _ _ _ _ _ h.2) h1 h2 h3 ho h4.tl.tl h5 h6 h7 hP1 hD1 hS1 hl
          rcases hfin with hfin | ⟨hfin, hin, hdecl⟩
          · exact va_put (D := D) (ci := ci) (v := xv ad ex v) (ty := ty1) C'.1 C'.2.1 C'.2.2.2.2.1 ok.2.1 ty ok.2.2.1 ok.2.2.2 C'.2.2.2.1 C'.2.2.2.2.2.1 hP hD hS i (fs := fs.map (xv ad ex)) hq ok.1 k hk (C'.2.2.2.2.1 _ hw) (fun _ q => q) hfin hpd hn hf (by rw [List.length_map]; exact hlen2) hd key
          · exact va_putF (D := D) (ci := ci) (v := xv ad ex v) (ty := ty1) C'.1 C'.2.1 C'.2.2.2.2.1 ok.2.1 ty ok.2.2.1 ok.2.2.2 C'.2.2.2.1 C'.2.2.2.2.2.1 hP hD hS i (fs := fs.map (xv ad ex)) hq ok.1 k hk (C'.2.2.2.2.1 _ hw) (fun _ q => q) hfin (C'.2.2.2.2.2.2.2.2.2.2.1 hin) hdecl hpd hn hf (by rw [List.length_map]; exact hlen2) hd key
        · exact h.elim
      · exact h.elim
    · exact h.elim
  · exact h.elim
theorem s_puti {d : TrD} {G : GX} {pc ix ci k : Nat} {C : String} {T : u_T} {N : Nat} {ty : Nat → FieldType} (ok : ClOk ci C T N ty) (hk : k < N) (hty : ty k = .int) (hfin : (T k).2.2.2 = false ∨ ((T k).2.2.2 = true ∧ d.1.name = "<init>" ∧ (T k).1 = d.1.cls)) (hd : decode d.2.1 pc = .ok (.putfield ix, 3)) (hw : Cond.fieldLink d.1.cls ix (T k).1 (T k).2.1 (T k).2.2.1 ∈ WG) : Snd d G pc (o_puti (pc + 3) ci k) := by
  intro p l e R s m args below meth c Z D cy ex A n0 ad0 Q C' g K hK L st M b h
  refine s_putf ok hk hty hfin hd hw p l e R s m args below meth c Z D cy ex A n0 ad0 Q C' g K hK L st M b ?_
  unfold o_puti at h
  unfold o_putf
  split at h
  · rename_i x i st1
    dsimp only
    split at h
    · rename_i ci' fs hM
      split at h
      · rename_i hb
        split at h
        · rename_i hlen
          exact ⟨trivial, h⟩
        · exact h.elim
      · exact h.elim
    · exact h.elim
  · exact h.elim
/-! arrays -/
def o_iald (n : Nat) : WOp := fun K Q L st M b => match st with
  | .int j :: .ref i :: st1 => match M[i]? with
    | some (.inl (0, z, .inl f)) => vp_in j z ∧ K n L (.int (f j.toNatClampNeg) :: st1) M b
    | _ => False
  | _ => False
theorem s_iald {d : TrD} {G : GX} {pc : Nat} (hd : decode d.2.1 pc = .ok (.iaload, 1)) : Snd d G pc (o_iald (pc + 1)) := by
  intro p l e R s m args below meth c Z D cy ex A n0 ad0 Q C' g K hK L st M b h ad H locs ls h1 h2 h3 h4 h5 h6 h7 hP hD hS hl
  unfold o_iald at h
  split at h
  · rename_i j i st1
    split at h
    · rename_i z f hM
      have hq := xw_at (cy := cy) (ad := ad) (ex := ex) hM
      refine va_iald (D := D) C'.1 C'.2.1 C'.2.2.2.2.2.1 hP i 0 hq rfl h.1 hd ?_
      exact hK _ _ _ _ _ h.2 ad H locs ls h1 h2 h3 (scl.cons trivial h4.tl.tl) h5 h6 h7 hP hD hS hl
    · exact h.elim
  · exact h.elim
def o_iast (n : Nat) : WOp := fun K Q L st M b => match st with
  | .int x :: .int j :: .ref i :: st1 => match M[i]? with
    | some (.inl (0, z, .inl f)) => vp_in j z ∧ K n L st1 (M.set i (.inl (0, z, .inl (upd f j.toNatClampNeg x)))) b
    | _ => False
  | _ => False
theorem s_iast {d : TrD} {G : GX} {pc : Nat} (hd : decode d.2.1 pc = .ok (.iastore, 1)) : Snd d G pc (o_iast (pc + 1)) := by
  intro p l e R s m args below meth c Z D cy ex A n0 ad0 Q C' g K hK L st M b h ad H locs ls h1 h2 h3 h4 h5 h6 h7 hP hD hS hl
  unfold o_iast at h
  split at h
  · rename_i x j i st1
    split at h
    · rename_i z f hM
      have hq := xw_at (cy := cy) (ad := ad) (ex := ex) hM
      refine va_iast (D := D) C'.1 C'.2.1 C'.2.2.2.2.2.1 hP hD hS i 0 hq rfl h.1 hd (fun H1 locs1 hP1 hD1 hS1 => ?_)
      exact XX_set (o := .inl (0, z, .inl (upd f j.toNatClampNeg x))) (hK _ _ _ _ _ h.2) h1 h2 h3 trivial h4.tl.tl.tl h5 h6 h7 hP1 hD1 hS1 hl
    · exact h.elim
  · exact h.elim
def o_bald (n : Nat) : WOp := fun K Q L st M b => match st with
  | .int j :: .ref i :: st1 => match M[i]? with
    | some (.inl (1, z, .inl f)) => vp_in j z ∧ K n L (.int (f j.toNatClampNeg) :: st1) M b
    | _ => False
  | _ => False
theorem s_bald {d : TrD} {G : GX} {pc : Nat} (hd : decode d.2.1 pc = .ok (.baload, 1)) : Snd d G pc (o_bald (pc + 1)) := by
  intro p l e R s m args below meth c Z D cy ex A n0 ad0 Q C' g K hK L st M b h ad H locs ls h1 h2 h3 h4 h5 h6 h7 hP hD hS hl
  unfold o_bald at h
  split at h
  · rename_i j i st1
    split at h
    · rename_i z f hM
      have hq := xw_at (cy := cy) (ad := ad) (ex := ex) hM
      refine va_bald (D := D) C'.1 C'.2.1 C'.2.2.2.2.2.1 hP i 1 hq rfl h.1 hd ?_
      exact hK _ _ _ _ _ h.2 ad H locs ls h1 h2 h3 (scl.cons trivial h4.tl.tl) h5 h6 h7 hP hD hS hl
    · exact h.elim
  · exact h.elim
def o_bast (n : Nat) : WOp := fun K Q L st M b => match st with
  | .int x :: .int j :: .ref i :: st1 => match M[i]? with
    | some (.inl (1, z, .inl f)) => vp_in j z ∧ K n L st1 (M.set i (.inl (1, z, .inl (upd f j.toNatClampNeg (vp_nar .byte x))))) b
    | _ => False
  | _ => False
theorem s_bast {d : TrD} {G : GX} {pc : Nat} (hd : decode d.2.1 pc = .ok (.bastore, 1)) : Snd d G pc (o_bast (pc + 1)) := by
  intro p l e R s m args below meth c Z D cy ex A n0 ad0 Q C' g K hK L st M b h ad H locs ls h1 h2 h3 h4 h5 h6 h7 hP hD hS hl
  unfold o_bast at h
  split at h
  · rename_i x j i st1
    split at h
    · rename_i z f hM
      have hq := xw_at (cy := cy) (ad := ad) (ex := ex) hM
      refine va_bast (D := D) C'.1 C'.2.1 C'.2.2.2.2.2.1 hP hD hS i 1 hq rfl h.1 hd (fun H1 locs1 hP1 hD1 hS1 => ?_)
      exact XX_set (o := .inl (1, z, .inl (upd f j.toNatClampNeg (vp_nar .byte x)))) (hK _ _ _ _ _ h.2) h1 h2 h3 trivial h4.tl.tl.tl h5 h6 h7 hP1 hD1 hS1 hl
    · exact h.elim
  · exact h.elim
def o_lald (n : Nat) : WOp := fun K Q L st M b => match st with
  | .int j :: .ref i :: st1 => match M[i]? with
    | some (.inl (2, z, .inr (.inl f))) => vp_in j z ∧ K n L (.long (f j.toNatClampNeg) :: st1) M b
    | _ => False
  | _ => False
theorem s_lald {d : TrD} {G : GX} {pc : Nat} (hd : decode d.2.1 pc = .ok (.laload, 1)) : Snd d G pc (o_lald (pc + 1)) := by
  intro p l e R s m args below meth c Z D cy ex A n0 ad0 Q C' g K hK L st M b h ad H locs ls h1 h2 h3 h4 h5 h6 h7 hP hD hS hl
  unfold o_lald at h
  split at h
  · rename_i j i st1
    split at h
    · rename_i z f hM
      have hq := xw_at (cy := cy) (ad := ad) (ex := ex) hM
      refine va_lald (D := D) C'.1 C'.2.1 C'.2.2.2.2.2.1 hP i 2 hq rfl h.1 hd ?_
      exact hK _ _ _ _ _ h.2 ad H locs ls h1 h2 h3 (scl.cons trivial h4.tl.tl) h5 h6 h7 hP hD hS hl
    · exact h.elim
  · exact h.elim
def o_last (n : Nat) : WOp := fun K Q L st M b => match st with
  | .long x :: .int j :: .ref i :: st1 => match M[i]? with
    | some (.inl (2, z, .inr (.inl f))) => vp_in j z ∧ K n L st1 (M.set i (.inl (2, z, .inr (.inl (vp_updL f j.toNatClampNeg x))))) b
    | _ => False
  | _ => False
theorem s_last {d : TrD} {G : GX} {pc : Nat} (hd : decode d.2.1 pc = .ok (.lastore, 1)) : Snd d G pc (o_last (pc + 1)) := by
  intro p l e R s m args below meth c Z D cy ex A n0 ad0 Q C' g K hK L st M b h ad H locs ls h1 h2 h3 h4 h5 h6 h7 hP hD hS hl
  unfold o_last at h
  split at h
  · rename_i x j i st1
    split at h
    · rename_i z f hM
      have hq := xw_at (cy := cy) (ad := ad) (ex := ex) hM
      refine va_last (D := D) C'.1 C'.2.1 C'.2.2.2.2.2.1 hP hD hS i 2 hq rfl h.1 hd (fun H1 locs1 hP1 hD1 hS1 => ?_)
      exact XX_set (o := .inl (2, z, .inr (.inl (vp_updL f j.toNatClampNeg x)))) (hK _ _ _ _ _ h.2) h1 h2 h3 trivial h4.tl.tl.tl h5 h6 h7 hP1 hD1 hS1 hl
    · exact h.elim
  · exact h.elim
/-- a reference out of an array (of a kind t): some k -/
def o_aald (n t : Nat) : WOp := fun K Q L st M b => match st with
  | .int j :: .ref i :: st1 => match M[i]? with
    | some (.inl (t', z, .inr (.inr (.inr (.inr f))))) => match Nat.beq t' t with
      | true => vp_in j z ∧ ∃ k, f j.toNatClampNeg = some k ∧ K n L (.ref k :: st1) M b
      | false => False
    | _ => False
  | _ => False
theorem s_aald {d : TrD} {G : GX} {pc t : Nat} (ht : t = 3 ∨ t = 4) (hd : decode d.2.1 pc = .ok (.aaload, 1)) : Snd d G pc (o_aald (pc + 1) t) := by
  intro p l e R s m args below meth c Z D cy ex A n0 ad0 Q C' g K hK L st M b h ad H locs ls h1 h2 h3 h4 h5 h6 h7 hP hD hS hl
  unfold o_aald at h
  split at h
  · rename_i j i st1
    split at h
    · rename_i t' z f hM
      split at h
      · rename_i hb
        cases Nat.eq_of_beq_eq_true hb
        obtain ⟨hin, k, hf, hk⟩ := h
        have hq := xw_at (cy := cy) (ad := ad) (ex := ex) hM
        have hlt : j.toNatClampNeg < z := Nat.not_le.mp fun q => hin (Or.inr q)
        have hv : va_rf ((f j.toNatClampNeg).map ad) = .ref (ad k) := by rw [hf]; rfl
        have goal := hK _ _ _ _ _ hk ad H locs ls h1 h2 h3 (scl.cons (show vcl M.length (.ref k) from (h3.at hM) _ _ hf) h4.tl.tl) h5 h6 h7 hP hD hS hl
        have go : ∀ ty : FieldType, (refKind ty = true) → ArrOfT s (cy t) ty → W p l e R s m args below meth c H locs (R.cells - b.1) (R.slots - b.2) Z (F0 m pc ls ((.int j :: .ref i :: st1).map (xv ad ex))) := by
          intro ty hty hA
          exact W.aald (v := .ref (ad k)) (ty := ty) C'.1 C'.2.1 (hP i _ hq) (hA z (fun j => va_rf ((f j).map ad))) hty (fun q => by cases q) (by show ¬ (j < 0 ∨ (arrV _ _ _).slots.size ≤ _); rw [arrV_size]; exact hin) (by show (arrV _ _ _).slots[_]? = _; rw [arrV_read _ _ hlt]; exact congrArg some hv) rfl rfl hd goal
        rcases ht with rfl | rfl
        · exact go _ rfl ((C'.2.2.2.2.2.1).2 3 (cy 3, .object "PlateArm$State") rfl).1
        · exact go _ rfl ((C'.2.2.2.2.2.1).2 4 (cy 4, .array .int) rfl).1
      · exact h.elim
    · exact h.elim
  · exact h.elim
/-- a State into a State[] -/
def o_aast (n : Nat) : WOp := fun K Q L st M b => match st with
  | .ref r :: .int j :: .ref i :: st1 => match M[i]?, M[r]? with
    | some (.inl (3, z, .inr (.inr (.inr (.inr f))))), some (.inr (5, _)) => vp_in j z ∧ K n L st1 (M.set i (.inl (3, z, .inr (.inr (.inr (.inr (va_up f j.toNatClampNeg (some r)))))))) b
    | _, _ => False
  | _ => False
theorem s_aast {d : TrD} {G : GX} {pc : Nat} {T : u_T} {N : Nat} {ty : Nat → FieldType} (ok : ClOk 5 "PlateArm$State" T N ty) (hd : decode d.2.1 pc = .ok (.aastore, 1)) : Snd d G pc (o_aast (pc + 1)) := by
  intro p l e R s m args below meth c Z D cy ex A n0 ad0 Q C' g K hK L st M b h ad H locs ls h1 h2 h3 h4 h5 h6 h7 hP hD hS hl
  unfold o_aast at h
  split at h
  · rename_i r j i st1
    split at h
    · rename_i z f fs hM hr
      have hq := xw_at (cy := cy) (ad := ad) (ex := ex) hM
      have hq2 := xw_at (cy := cy) (ad := ad) (ex := ex) hr
      refine va_astq (D := D) C'.1 C'.2.1 C'.2.2.2.2.2.1 hP hD hS i 3 r 5 hq (r := ("PlateArm$State", T, N)) rfl hq2 ok.1 h.1 hd (fun H1 locs1 hP1 hD1 hS1 => ?_)
      have eq : (Sum.inl (cy 3, z, Sum.inr (Sum.inr (Sum.inr (Sum.inr (va_up (fun j => (f j).map ad) j.toNatClampNeg (some (ad r))))))) : va_E) = xo cy ad ex (.inl (3, z, .inr (.inr (.inr (.inr (va_up f j.toNatClampNeg (some r))))))) := by
        show _ = (Sum.inl (cy 3, z, Sum.inr (Sum.inr (Sum.inr (Sum.inr (fun q => (va_up f j.toNatClampNeg (some r) q).map ad))))) : va_E)
        congr 7
        funext q
        unfold va_up
        by_cases hqj : q = j.toNatClampNeg
        · simp [hqj]
        · simp [hqj]
      have hP2 : va_P D vwCl ((xw cy ad ex M).set i (ad i, xo cy ad ex (.inl (3, z, .inr (.inr (.inr (.inr (va_up f j.toNatClampNeg (some r))))))))) H1 := by rw [← eq]; exact hP1
      have hD2 : va_D A ((xw cy ad ex M).set i (ad i, xo cy ad ex (.inl (3, z, .inr (.inr (.inr (.inr (va_up f j.toNatClampNeg (some r))))))))) := by rw [← eq]; exact hD1
      refine XX_set (hK _ _ _ _ _ h.2) h1 h2 h3 ?_ h4.tl.tl.tl h5 h6 h7 hP2 hD2 hS1 hl
      intro q k hqk
      unfold va_up at hqk
      by_cases hqj : q = j.toNatClampNeg
      · rw [if_pos hqj] at hqk
        cases hqk
        exact h4.hd
      · rw [if_neg hqj] at hqk
        exact (h3.at hM) q k hqk
    · exact h.elim
  · exact h.elim
/-! what stood before -/
def o_gets (n : Nat) (v : Value) : WOp := fun K Q L st M b => K n L (v :: st) M b
theorem s_gets {d : TrD} {G : GX} {pc ix : Nat} {C nm dsc : String} {v : Value} (hz : (C, nm, dsc, v) ∈ EZ) (hd : decode d.2.1 pc = .ok (.getstatic ix, 3)) (hw : Cond.fieldLink d.1.cls ix C nm dsc ∈ WG) : Snd d G pc (o_gets (pc + 3) v) := by
  intro p l e R s m args below meth c Z D cy ex A n0 ad0 Q C' g K hK L st M b h ad H locs ls h1 h2 h3 h4 h5 h6 h7 hP hD hS hl
  have hn := EZ_nref _ hz
  refine va_gets C'.1 C'.2.1 ((C'.2.2.2.2.2.2.1).1 _ hz) hS C'.2.2.2.1 (C'.2.2.2.2.1 _ hw) (fun _ q => q) hd ?_
  have := hK _ _ _ _ _ h ad H locs ls h1 h2 h3 (scl.cons (nref_cl hn) h4) h5 h6 h7 hP hD hS hl
  rw [List.map_cons, xe_xv hn] at this
  exact this
def o_getx (n lo : Nat) (tab : List Value) : WOp := fun K Q L st M b => match st with
  | .float u :: st1 => match Nat.ble lo u.toNat, tab[u.toNat - lo]? with
    | true, some v => K n L (v :: st1) M b
    | _, _ => False
  | _ => False
theorem s_getx {d : TrD} {G : GX} {pc ix lo : Nat} {o nm dsc : String} {tab : List Value} (hz : ∀ (j : Nat) (v : Value), tab[j]? = some v → (lo + j, o, nm, dsc, v) ∈ EF) (hd : decode d.2.1 pc = .ok (.getfield ix, 3)) (hw : Cond.fieldLink d.1.cls ix o nm dsc ∈ WG) : Snd d G pc (o_getx (pc + 3) lo tab) := by
  intro p l e R s m args below meth c Z D cy ex A n0 ad0 Q C' g K hK L st M b h ad H locs ls h1 h2 h3 h4 h5 h6 h7 hP hD hS hl
  unfold o_getx at h
  split at h
  · rename_i u st1
    split at h
    · rename_i v hlo hv
      have hE := hz _ _ hv
      have hu : lo + (u.toNat - lo) = u.toNat := by have := Nat.le_of_ble_eq_true hlo; omega
      rw [hu] at hE
      have hn := EF_nref _ hE
      refine vk_getf C'.1 C'.2.1 ((C'.2.2.2.2.2.2.1).2.2.2.1 _ hE) hS C'.2.2.2.1 (C'.2.2.2.2.1 _ hw) (fun _ q => q) hd ?_
      have := hK _ _ _ _ _ h ad H locs ls h1 h2 h3 (scl.cons (nref_cl hn) h4.tl) h5 h6 h7 hP hD hS hl
      rw [List.map_cons, xe_xv hn] at this
      exact this
    · exact h.elim
  · exact h.elim
/-- a place of an int array from before, of id k, that holds l -/
def o_xald (n k : Nat) (l : List Int32) : WOp := fun K Q L st M b => match st with
  | .int j :: .float u :: st1 => match Nat.beq u.toNat k with
    | true => vp_in j l.length ∧ K n L (.int (l.getD j.toNatClampNeg 0) :: st1) M b
    | false => False
  | _ => False
theorem s_xald {d : TrD} {G : GX} {pc k : Nat} {l : List Int32} (hz : (k, FieldType.int, l.length, exB l) ∈ ET) (hd : decode d.2.1 pc = .ok (.iaload, 1)) : Snd d G pc (o_xald (pc + 1) k l) := by
  intro p l e R s m args below meth c Z D cy ex A n0 ad0 Q C' g K hK L st M b h ad H locs ls h1 h2 h3 h4 h5 h6 h7 hP hD hS hl
  unfold o_xald at h
  split at h
  · rename_i j u st1
    split at h
    · rename_i hb
      have e9 := Nat.eq_of_beq_eq_true hb
      have hT := (C'.2.2.2.2.2.2.1).2.1 _ hz
      refine va_ti (t := ex u.toNat) C'.1 C'.2.1 (by rw [e9]; exact hT) hS h.1 rfl hd ?_
      exact hK _ _ _ _ _ h.2 ad H locs ls h1 h2 h3 (scl.cons trivial h4.tl.tl) h5 h6 h7 hP hD hS hl
    · exact h.elim
  · exact h.elim
def o_xaald (n : Nat) : WOp := fun K Q L st M b => match st with
  | .int j :: .float u :: st1 => match Nat.beq u.toNat 21 with
    | true => vp_in j 6 ∧ K n L (.float (UInt32.ofNat j.toNatClampNeg) :: st1) M b
    | false => False
  | _ => False
theorem s_xaald {d : TrD} {G : GX} {pc : Nat} (hd : decode d.2.1 pc = .ok (.aaload, 1)) : Snd d G pc (o_xaald (pc + 1)) := by
  intro p l e R s m args below meth c Z D cy ex A n0 ad0 Q C' g K hK L st M b h ad H locs ls h1 h2 h3 h4 h5 h6 h7 hP hD hS hl
  unfold o_xaald at h
  split at h
  · rename_i j u st1
    split at h
    · rename_i hb
      have e9 := Nat.eq_of_beq_eq_true hb
      have hT := (C'.2.2.2.2.2.2.1).2.1 (21, .object "PlateArm$Word", 6, fun j => .float (UInt32.ofNat j)) (by simp [ET])
      refine vb_tq (t := ex u.toNat) C'.1 C'.2.1 (by rw [e9]; exact hT) hS h.1 rfl hd ?_
      exact hK _ _ _ _ _ h.2 ad H locs ls h1 h2 h3 (scl.cons trivial h4.tl.tl) h5 h6 h7 hP hD hS hl
    · exact h.elim
  · exact h.elim
def o_xbald (n lo : Nat) (tab : List (List Int32)) : WOp := fun K Q L st M b => match st with
  | .int j :: .float u :: st1 => match Nat.ble lo u.toNat, tab[u.toNat - lo]? with
    | true, some l => vp_in j l.length ∧ K n L (.int (l.getD j.toNatClampNeg 0) :: st1) M b
    | _, _ => False
  | _ => False
theorem s_xbald {d : TrD} {G : GX} {pc lo : Nat} {tab : List (List Int32)} (hz : ∀ (j : Nat) (l : List Int32), tab[j]? = some l → (lo + j, FieldType.byte, l.length, exB l) ∈ ET) (hd : decode d.2.1 pc = .ok (.baload, 1)) : Snd d G pc (o_xbald (pc + 1) lo tab) := by
  intro p l e R s m args below meth c Z D cy ex A n0 ad0 Q C' g K hK L st M b h ad H locs ls h1 h2 h3 h4 h5 h6 h7 hP hD hS hl
  unfold o_xbald at h
  split at h
  · rename_i j u st1
    split at h
    · rename_i l9 hlo hv
      have hE := hz _ _ hv
      have hu : lo + (u.toNat - lo) = u.toNat := by have := Nat.le_of_ble_eq_true hlo; omega
      rw [hu] at hE
      have hT := (C'.2.2.2.2.2.2.1).2.1 _ hE
      refine va_tb (t := ex u.toNat) C'.1 C'.2.1 hT hS h.1 rfl hd ?_
      exact hK _ _ _ _ _ h.2 ad H locs ls h1 h2 h3 (scl.cons trivial h4.tl.tl) h5 h6 h7 hP hD hS hl
    · exact h.elim
  · exact h.elim
def o_xlen (n lo : Nat) (tab : List Nat) : WOp := fun K Q L st M b => match st with
  | .float u :: st1 => match Nat.ble lo u.toNat, tab[u.toNat - lo]? with
    | true, some z => K n L (.int (Int32.ofNat z) :: st1) M b
    | _, _ => False
  | _ => False
theorem s_xlen {d : TrD} {G : GX} {pc lo : Nat} {tab : List Nat} (hz : ∀ (j z : Nat), tab[j]? = some z → ∃ ty f, (lo + j, ty, z, f) ∈ ET) (hd : decode d.2.1 pc = .ok (.arraylength, 1)) : Snd d G pc (o_xlen (pc + 1) lo tab) := by
  intro p l e R s m args below meth c Z D cy ex A n0 ad0 Q C' g K hK L st M b h ad H locs ls h1 h2 h3 h4 h5 h6 h7 hP hD hS hl
  unfold o_xlen at h
  split at h
  · rename_i u st1
    split at h
    · rename_i z hlo hv
      obtain ⟨ty, f, hE⟩ := hz _ _ hv
      have hu : lo + (u.toNat - lo) = u.toNat := by have := Nat.le_of_ble_eq_true hlo; omega
      rw [hu] at hE
      have hT := (C'.2.2.2.2.2.2.1).2.1 _ hE
      refine va_tlen (t := ex u.toNat) C'.1 C'.2.1 hT hS rfl hd ?_
      exact hK _ _ _ _ _ h ad H locs ls h1 h2 h3 (scl.cons trivial h4.tl) h5 h6 h7 hP hD hS hl
    · exact h.elim
  · exact h.elim
def o_acmp_ne (t n : Nat) : WOp := fun K Q L st M b => match st with
  | .float w :: .float u :: st1 => match Nat.ble (u.toNat + 1) 6, Nat.ble (w.toNat + 1) 6 with
    | true, true => (¬ u.toNat = w.toNat → K t L st1 M b) ∧ (u.toNat = w.toNat → K n L st1 M b)
    | _, _ => False
  | _ => False
theorem s_o_acmp_ne {d : TrD} {G : GX} {pc t : Nat} {off : Int} (hd : decode d.2.1 pc = .ok (.if_acmp .ne off, 3)) (ht : (pc : Int) + off = (t : Int)) : Snd d G pc (o_acmp_ne t (pc + 3)) := by
  intro p l e R s m args below meth c Z D cy ex A n0 ad0 Q C' g K hK L st M b h ad H locs ls h1 h2 h3 h4 h5 h6 h7 hP hD hS hl
  unfold o_acmp_ne at h
  split at h
  · rename_i w u st1
    split at h
    · rename_i hu hw
      have hinj := (C'.2.2.2.2.2.2.1).2.2.2.2.2.1 u.toNat w.toNat (Nat.le_of_ble_eq_true hu) (Nat.le_of_ble_eq_true hw)
      refine lv_acmp_ne (rx := some (ex u.toNat)) (ry := some (ex w.toNat)) C'.1 C'.2.1 hd ht (fun q => ?_) (fun q => ?_)
      · exact hK _ _ _ _ _ (h.1 (fun z => q (by rw [z]))) ad H locs ls h1 h2 h3 h4.tl.tl h5 h6 h7 hP hD hS hl
      · exact hK _ _ _ _ _ (h.2 (hinj (Option.some.inj q))) ad H locs ls h1 h2 h3 h4.tl.tl h5 h6 h7 hP hD hS hl
    · exact h.elim
  · exact h.elim
end
section
/-! ===== triples: what a method does to a world; calls; ends ===== -/
def wsOf (d : TrD) : List Cond := .code d.1 d.2.1 d.2.2.1 d.2.2.2.1 :: WG
abbrev rmOf (d : TrD) (mc ms : Nat) : Room := { frames := d.2.2.2.2.1, cells := mc, slots := ms, locals := d.2.2.2.2.2 }
def TPre (D : va_G) (cy ex ad : Nat → Nat) (sz : Nat) (M : AM) : State → Prop := fun U => U.heap.size = sz ∧ va_P D vwCl (xw cy ad ex M) U.heap ∧ va_K D vwCl (TY cy) U ∧ va_D (fun _ => True) (xw cy ad ex M) ∧ XE ex (va_A (xw cy ad ex M) sz) U U.heap
def TRet (D : va_G) (cy ex ad : Nat → Nat) (M : AM) (A : Nat → Prop) (Q : AQ) : Array Value → State → Outcome → State → Prop := fun _ st oc t =>
  (∃ (ad' : Nat → Nat) (v : Option Value) (M' : AM), oc = .returned (v.map (xv ad' ex)) ∧ Q (.inl v) M' ∧ Agr M.length ad ad' ∧ M.length ≤ M'.length ∧ mcl M' ∧ (∀ w, v = some w → vcl M'.length w) ∧ va_P D vwCl (xw cy ad' ex M') t.heap ∧ va_D A (xw cy ad' ex M')) ∧ va_F A st t
def TThr (D : va_G) (cy ex ad : Nat → Nat) (M : AM) (A : Nat → Prop) (Q : AQ) : String → State → State → Prop := fun E st t =>
  ∃ (ad' : Nat → Nat) (M' : AM), Q (.inr E) M' ∧ Agr M.length ad ad' ∧ M.length ≤ M'.length ∧ mcl M' ∧ va_P D vwCl (xw cy ad' ex M') t.heap ∧ va_D A (xw cy ad' ex M') ∧ va_F A st t
/-- from a world that holds M, with the arguments a, the method d ends as Q says, and makes at most mc cells of ms slots -/
def Tr (d : TrD) (mc ms : Nat) (a : List Value) (M : AM) (Q : AQ) : Prop := mcl M → scl M.length a → ∀ (l : Launch) (D : va_G) (cy ex ad : Nat → Nat) (sz : Nat), l.stackTraces = false →
  vx_Met l d.1 (wsOf d) (rmOf d mc ms) (va_Pc (a.map (xv ad ex)) (TPre D cy ex ad sz M)) (TRet D cy ex ad M (va_A (xw cy ad ex M) sz) Q) (TThr D cy ex ad M (va_A (xw cy ad ex M) sz) Q) mc ms (va_A (xw cy ad ex M) sz)
theorem TPre_blind {D : va_G} {cy ex ad : Nat → Nat} {sz : Nat} {M : AM} {av : List Value} : FrameBlind (va_Pc av (TPre D cy ex ad sz M)) := fun a U g mk q => by
  obtain ⟨q0, q1, q2, q3, q4, q5⟩ := q
  exact ⟨q0, q1, q2, va_K.moved (u := U) (U := U.calling g mk a) (Vm.Alike.refl U.vm) q3, q4, XE.same (u := U) (U := U.calling g mk a) rfl q5⟩
/-! ends -/
def o_iret : WOp := fun _ Q _ st M _ => match st with
  | [.int x] => Q (.inl (some (.int x))) M
  | _ => False
def o_zret : WOp := fun _ Q _ st M _ => match st with
  | [.int x] => x &&& 1 = x ∧ Q (.inl (some (.int x))) M
  | _ => False
def o_lret : WOp := fun _ Q _ st M _ => match st with
  | [.long x] => Q (.inl (some (.long x))) M
  | _ => False
def o_aret : WOp := fun _ Q _ st M _ => match st with
  | [.float x] => Q (.inl (some (.float x))) M
  | _ => False
def o_vret : WOp := fun _ Q _ st M _ => match st with
  | [] => Q (.inl none) M
  | _ => False
theorem s_iret {d : TrD} {G : GX} {pc : Nat} (hr : d.2.2.2.1 = some .int) (hd : decode d.2.1 pc = .ok (.ireturn, 1)) : Snd d G pc o_iret := by
  intro p l e R s m args below meth c Z D cy ex A n0 ad0 Q C g K hK L st M b h
  unfold o_iret at h
  split at h
  · exact C.2.2.2.2.2.2.2.2.2.2.2.2.1 pc L _ M b hd ⟨_, hr, rfl⟩ h
  · exact h.elim
theorem s_zret {d : TrD} {G : GX} {pc : Nat} (hr : d.2.2.2.1 = some .boolean) (hd : decode d.2.1 pc = .ok (.ireturn, 1)) : Snd d G pc o_zret := by
  intro p l e R s m args below meth c Z D cy ex A n0 ad0 Q C g K hK L st M b h
  unfold o_zret at h
  split at h
  · exact C.2.2.2.2.2.2.2.2.2.2.2.2.1 pc L _ M b hd ⟨_, hr, by rw [show narrow .boolean (.int _) = .int (_ &&& 1) from rfl, h.1]⟩ h.2
  · exact h.elim
def o_nret (f : Int32 → Int32) : WOp := fun _ Q _ st M _ => match st with
  | [.int x] => f x = x ∧ Q (.inl (some (.int x))) M
  | _ => False
theorem s_nret {d : TrD} {G : GX} {pc : Nat} {ty : FieldType} {f : Int32 → Int32} (hr : d.2.2.2.1 = some ty) (hf : ∀ x, narrow ty (.int x) = .int (f x)) (hd : decode d.2.1 pc = .ok (.ireturn, 1)) : Snd d G pc (o_nret f) := by
  intro p l e R s m args below meth c Z D cy ex A n0 ad0 Q C g K hK L st M b h
  unfold o_nret at h
  split at h
  · exact C.2.2.2.2.2.2.2.2.2.2.2.2.1 pc L _ M b hd ⟨_, hr, by rw [hf, h.1]⟩ h.2
  · exact h.elim
theorem s_lret {d : TrD} {G : GX} {pc : Nat} (hr : d.2.2.2.1 = some .long) (hd : decode d.2.1 pc = .ok (.lreturn, 1)) : Snd d G pc o_lret := by
  intro p l e R s m args below meth c Z D cy ex A n0 ad0 Q C g K hK L st M b h
  unfold o_lret at h
  split at h
  · exact C.2.2.2.2.2.2.2.2.2.2.2.2.2.1 pc L _ M b hd hr h
  · exact h.elim
theorem s_aret {d : TrD} {G : GX} {pc : Nat} {n : String} (hr : d.2.2.2.1 = some (.object n)) (hd : decode d.2.1 pc = .ok (.areturn, 1)) : Snd d G pc o_aret := by
  intro p l e R s m args below meth c Z D cy ex A n0 ad0 Q C g K hK L st M b h
  unfold o_aret at h
  split at h
  · exact C.2.2.2.2.2.2.2.2.2.2.2.2.2.2.1 pc L _ M b hd ⟨_, hr⟩ h
  · exact h.elim
theorem s_vret {d : TrD} {G : GX} {pc : Nat} (hr : d.2.2.2.1 = none) (hd : decode d.2.1 pc = .ok (.return_, 1)) : Snd d G pc o_vret := by
  intro p l e R s m args below meth c Z D cy ex A n0 ad0 Q C g K hK L st M b h
  unfold o_vret at h
  split at h
  · exact C.2.2.2.2.2.2.2.2.2.2.2.2.2.2.2.1 pc L M b hd hr h
  · exact h.elim
/-- throw new E() -/
def o_throw (E : String) : WOp := fun _ Q _ st M b => match st, Nat.ble 1 b.1, Nat.ble 6 b.2 with
  | [], true, true => Q (.inr E) M
  | _, _, _ => False
def ThrOk (d : TrD) (ik ic : Nat) (E : String) : Prop := Bundle.fit E = true ∧ Cond.classLink d.1.cls ik E ∈ WG ∧ Cond.initialized E ∈ WG ∧ (∀ w ∈ (vx_at0 d.1.cls ic E ["java/lang/RuntimeException", "java/lang/Exception"]).filter goodWord, w ∈ WG) ∧ (∀ w ∈ (vx_at0 d.1.cls ic E ["java/lang/RuntimeException", "java/lang/Exception"]).filter (fun w => !goodWord w), w ∈ Cond.castable E E :: EWd.map Cond.declares) ∧ (E, E) ∈ EWc ∧ (∀ w ∈ Cond.classLink d.1.cls ik E :: Cond.initialized E :: vx_at0 d.1.cls ic E ["java/lang/RuntimeException", "java/lang/Exception"], vx_ot w = true) ∧ 5 < d.2.2.2.2.1 ∧ 81 ≤ d.2.2.2.2.2
theorem s_throw {d : TrD} {G : GX} {pc ik ic : Nat} {E : String} (ok : ThrOk d ik ic E) (d0 : decode d.2.1 pc = .ok (.new ik, 3)) (d3 : decode d.2.1 (pc + 3) = .ok (.dup, 1)) (d4 : decode d.2.1 (pc + 4) = .ok (.invokespecial ic, 3)) (d7 : decode d.2.1 (pc + 7) = .ok (.athrow, 1)) : Snd d G pc (o_throw E) := by
  intro p l e R s m args below meth c Z D cy ex A n0 ad0 Q C g K hK L st M b h
  obtain ⟨k1, k2, k3, k4, k5, k6, k7, k8, k9⟩ := ok
  unfold o_throw at h
  split at h
  · rename_i hb1 hb2
    have hcast : (Cond.castable E E).before args s = true := va_Nw.use rfl ((C.2.2.2.2.2.2.1).2.2.2.2.2.2.2.1 _ k6)
    refine C.2.2.2.2.2.2.2.2.2.2.2.2.2.2.2.2.2 pc ik ic E L M b d0 d3 d4 d7 k1 (C.2.2.2.2.1 _ k2) (C.2.2.2.2.1 _ k3) (vx_hat (B := Cond.castable E E :: EWd.map Cond.declares) (fun w hw => C.2.2.2.2.1 _ (k4 w hw)) k5 (fun w hw => (List.mem_cons.mp hw).elim (fun q => by rw [q]; exact hcast) (fun q => by obtain ⟨x, hx, rfl⟩ := List.mem_map.mp q; exact va_Nw.use rfl ((C.2.2.2.2.2.2.1).2.2.2.2.2.2.2.2.2.2.2.1 x hx)))) k7 ?_ ?_ (Nat.le_of_ble_eq_true hb1) (Nat.le_of_ble_eq_true hb2) h
    · rw [C.2.2.2.2.2.2.2.2.1]; exact k8
    · rw [C.2.2.2.2.2.2.2.2.2.1]; exact k9
  · exact h.elim
/-! calls -/
def rKall (n : Nat) (mc ms : Nat) (K : WK) (Q : AQ) (L : AL) (rest : List Value) (b : AB) : AQ := fun o M' => match o with
  | .inl v => K n L (v.toList ++ rest) M' (b.1 - mc, b.2 - ms)
  | .inr E => Q (.inr E) M'
def o_callV (n ci nargs : Nat) (d' : TrD) (mc ms : Nat) : WOp := fun K Q L st M b => match st.drop nargs with
  | .ref r :: rest => match M[r]? with
    | some (.inr (ci', _)) => match Nat.beq ci' ci, Nat.ble ((rest.map Value.category).sum) 8, Nat.ble mc b.1, Nat.ble ms b.2 with
      | true, true, true, true => Tr d' mc ms (.ref r :: (st.take nargs).reverse) M (rKall n mc ms K Q L rest b)
      | _, _, _, _ => False
    | _ => False
  | _ => False
def o_callS (n nargs : Nat) (d' : TrD) (mc ms : Nat) : WOp := fun K Q L st M b => match Nat.ble nargs st.length, Nat.ble (((st.drop nargs).map Value.category).sum) 8, Nat.ble mc b.1, Nat.ble ms b.2 with
  | true, true, true, true => Tr d' mc ms (st.take nargs).reverse M (rKall n mc ms K Q L (st.drop nargs) b)
  | _, _, _, _ => False
def CallC (d d' : TrD) (nargs : Nat) : Prop := d'.1.cls ≠ "java/lang/invoke/MethodHandle" ∧ d'.1.cls ≠ "java/lang/invoke/VarHandle" ∧ (parseMethodDescriptor d'.1.desc).map (fun d => d.parameters.length) = some nargs ∧ d'.2.2.2.2.1 + 1 ≤ d.2.2.2.2.1 ∧ 8 + (d'.2.2.1 + 11) + d'.2.2.2.2.2 ≤ d.2.2.2.2.2 ∧ Cond.initialized d'.1.cls ∈ WG ∧ Cond.code d'.1 d'.2.1 d'.2.2.1 d'.2.2.2.1 ∈ WG
theorem A1_sub {cy ad ex : Nat → Nat} {M : AM} {A : Nat → Prop} {H0 H : Heap} {locs : List Loc} (hA : ∀ q, H0.size ≤ q → A q) (hD : va_D A (xw cy ad ex M)) (hS : va_S A H0 H locs) : ∀ q, va_A (xw cy ad ex M) H.size q → A q := by
  intro q h
  rcases h with ⟨k, e, h⟩ | h
  · exact hD.2 k (q, e) h
  · exact hA q (Nat.le_trans hS.1 h)
theorem cat_map {ad ex : Nat → Nat} (st : List Value) : ((st.map (xv ad ex)).map fun v => v.category) = st.map Value.category := by
  rw [List.map_map]
  exact List.map_congr_left fun v _ => xv_cat v
/-- behind a call -/
theorem run_on {d : TrD} {p : Program} {l : Launch} {e : Env} {R : Room} {s : State} {m : MethodId} {args : Array Value} {below : List Frame} {meth : Method} {c : Code} {Z : State → Prop} {D : va_G} {cy ex : Nat → Nat} {A : Nat → Prop} {n0 : Nat} {ad0 ad : Nat → Nat} {Q : AQ} {n pc mc ms : Nat} {K : WK} {L : AL} {st rest : List Value} {M : AM} {b : AB} {H : Heap} {locs : List Loc} {ls : Array Slot} {aa : Array Value}
    (C : Cx d p l e R s m args below meth c Z D cy ex A n0 ad0 Q) (hK : ∀ pc L st M b, K pc L st M b → XX p l e R s m args below meth c Z D cy ex A n0 ad0 d.2.2.1 pc L st M b)
    (hn : n = pc + 3) (hmc : mc ≤ b.1) (hms : ms ≤ b.2) (h1 : Agr n0 ad0 ad) (h2 : n0 ≤ M.length) (h3 : mcl M) (h4 : scl M.length rest) (h5 : lcl M.length L) (h6 : b.1 ≤ R.cells) (h7 : b.2 ≤ R.slots) (hP : va_P D vwCl (xw cy ad ex M) H) (hD : va_D A (xw cy ad ex M)) (hS : va_S A s.heap H locs) (hl : lv_has ls d.2.2.1 (xl ad ex L))
    (hr : vx_Run p l e R s m args below meth c H locs (R.cells - b.1) (R.slots - b.2) mc ms (F0 m pc ls (st.map (xv ad ex))) (rest.map (xv ad ex)) (TRet D cy ex ad M (va_A (xw cy ad ex M) H.size) (rKall n mc ms K Q L rest b) aa) (TThr D cy ex ad M (va_A (xw cy ad ex M) H.size) (rKall n mc ms K Q L rest b)) (va_A (xw cy ad ex M) H.size)) :
    W p l e R s m args below meth c H locs (R.cells - b.1) (R.slots - b.2) Z (F0 m pc ls (st.map (xv ad ex))) := by
  subst hn
  have hA1 := A1_sub C.2.2.2.2.2.2.2.1 hD hS
  have ec : R.cells - b.1 + mc = R.cells - (b.1 - mc) := by omega
  have es : R.slots - b.2 + ms = R.slots - (b.2 - ms) := by omega
  intro T hT X
  rcases hr T hT X with ⟨v, st₀, t, T', L9, h0, X', hL, e1, e2, ⟨⟨ad', v', M', hv, hQ, hag, hle, hm, hvc, hP1, hD1⟩, hF⟩, go⟩ | ⟨q, st₀, t, T', L9, E, ce, h0, X', hL, e1, e2, ⟨ad', M', hQ, hag, hle, hm, hP1, hD1, hF⟩, hce, hcv, hcl, go⟩
  · cases hv
    obtain ⟨k1, k2, k3⟩ := vx_keep h0 e1 hS (fun q _ => hA1 q) hA1 hL hF
    have est : (v'.map (xv ad' ex)).toList ++ rest.map (xv ad ex) = (v'.toList ++ rest).map (xv ad' ex) := by
      rw [List.map_append, st_agr hag h4]
      cases v' <;> rfl
    have w := hK _ _ _ _ _ hQ ad' T'.heap (locs ++ L9) ls (h1.tr hag h2) (Nat.le_trans h2 hle) hm (by
      intro w hw
      rcases List.mem_append.mp hw with q | q
      · cases v' with
        | none => cases q
        | some z => rw [List.mem_singleton.mp q]; exact hvc z rfl
      · exact (h4 w q).mono hle) (h5.mono hle) (Nat.le_trans (Nat.sub_le _ _) h6) (Nat.le_trans (Nat.sub_le _ _) h7) (by rw [e1]; exact hP1) (hD1.weaken (fun _ q _ h => hA1 q.1 h)) k3 (xl_agr hag h5 hl)
    rw [← est] at w
    have X2 : Stand p l e R s m args below meth c T' (locs ++ L9) (R.cells - (b.1 - mc)) (R.slots - (b.2 - ms)) := by rw [← ec, ← es]; exact X'
    obtain ⟨t2, a1, b1⟩ := w T' rfl X2
    exact ⟨t2, go t2 a1, b1⟩
  · obtain ⟨k1, k2, k3⟩ := vx_keep h0 e1 hS (fun q _ => hA1 q) hA1 hL hF
    have hq : Q (.inr E) M' := hQ
    have w := C.2.2.2.2.2.2.2.2.2.2.2.2.2.2.2.2.1 pc E ce q T'.heap M' (b.1 - mc, b.2 - ms) ad' ls (rest.map (xv ad ex)) (locs ++ L9) hq (h1.tr hag h2) (Nat.le_trans h2 hle) hm (Nat.le_trans (Nat.sub_le _ _) h6) (Nat.le_trans (Nat.sub_le _ _) h7) (by rw [e1]; exact hP1) (hD1.weaken (fun _ q _ h => hA1 q.1 h)) k3 (by rw [e1]; exact hce) hcv hcl
    have X2 : Stand p l e R s m args below meth c T' (locs ++ L9) (R.cells - (b.1 - mc)) (R.slots - (b.2 - ms)) := by rw [← ec, ← es]; exact X'
    obtain ⟨t2, a1, b1⟩ := w T' rfl X2
    exact ⟨t2, go.trans a1, b1⟩
theorem tpre_at {d : TrD} {p : Program} {l : Launch} {e : Env} {R : Room} {s : State} {m : MethodId} {args : Array Value} {below : List Frame} {meth : Method} {c : Code} {Z : State → Prop} {D : va_G} {cy ex : Nat → Nat} {A : Nat → Prop} {n0 : Nat} {ad0 ad : Nat → Nat} {Q : AQ} {M : AM} {H : Heap} {locs : List Loc}
    (C : Cx d p l e R s m args below meth c Z D cy ex A n0 ad0 Q) (hP : va_P D vwCl (xw cy ad ex M) H) (hD : va_D A (xw cy ad ex M)) (hS : va_S A s.heap H locs) : ∀ U : State, U.heap = H → s.WarmedH U.vm → TPre D cy ex ad H.size M U := by
  intro U hU hW
  have hA1 := A1_sub C.2.2.2.2.2.2.2.1 hD hS
  refine ⟨by rw [hU], by rw [hU]; exact hP, va_K.moved hW.alike C.2.2.2.2.2.1, hD.weaken (fun _ _ _ _ => trivial), ?_⟩
  rw [hU]
  exact XE.warm hW ((C.2.2.2.2.2.2.1.kept hS.2.1).narrow hA1)
theorem take_len {st rest : List Value} {n : Nat} {v : Value} (h : st.drop n = v :: rest) : (st.take n).length = n := by
  have hl : (st.drop n).length = rest.length + 1 := by rw [h]; rfl
  rw [List.length_drop] at hl
  rw [List.length_take]
  omega
theorem s_callV {d d' : TrD} {G : GX} {pc ix ci nargs mc ms : Nat} {T : u_T} {N : Nat} {ty : Nat → FieldType} (ok : ClOk ci d'.1.cls T N ty) (cc : CallC d d' nargs) (hw1 : Cond.methodLink d.1.cls ix d'.1 ∈ WG) (hw2 : Cond.instanceMethod d'.1 ∈ WG) (hw3 : Cond.selects d'.1.cls d'.1 d'.1 ∈ WG) (hd : decode d.2.1 pc = .ok (.invokevirtual ix, 3)) : Snd d G pc (o_callV (pc + 3) ci nargs d' mc ms) := by
  intro p l e R s m args below meth c Z D cy ex A n0 ad0 Q C g K hK L st M b h ad H locs ls h1 h2 h3 h4 h5 h6 h7 hP hD hS hl
  unfold o_callV at h
  split at h
  · rename_i r rest hst
    split at h
    · rename_i ci' fs hM
      split at h
      · rename_i hb hcat hmc hms
        cases Nat.eq_of_beq_eq_true hb
        have hmc := Nat.le_of_ble_eq_true hmc
        have hms := Nat.le_of_ble_eq_true hms
        have hrest : scl M.length (.ref r :: rest) := fun w hw => h4 w (List.mem_of_mem_drop (hst ▸ hw))
        have hargs : scl M.length (.ref r :: (st.take nargs).reverse) := scl.cons hrest.hd (fun w hw => h4 w (List.mem_of_mem_take (List.mem_reverse.mp hw)))
        have hT := h h3 hargs l D cy ex ad H.size C.2.2.2.2.2.2.2.2.2.2.2.1
        obtain ⟨c1, c2, c3, c4, c5, c6, c7⟩ := cc
        have hq := xw_at (cy := cy) (ad := ad) (ex := ex) hM
        have hgood : GoodIn WG (wsV d.1.cls ix d'.1.cls d'.1 (wsOf d')) := WG_in (by
          intro w hw
          simp only [wsV, wsOf, List.cons_append, List.nil_append, List.mem_cons] at hw
          rcases hw with rfl | rfl | rfl | rfl | rfl | hw
          · exact hw1
          · exact hw2
          · exact hw3
          · exact c6
          · exact c7
          · exact hw)
        have hr := vx_runV (e := e) (below := below) (meth := meth) (b := ad r) (As := ((st.take nargs).reverse).map (xv ad ex)) (rest := rest.map (xv ad ex)) (locs := locs) (cells := R.cells - b.1) (slots := R.slots - b.2) (g := F0 m pc ls (st.map (xv ad ex))) ⟨C.1, C.2.1, C.2.2.1, C.2.2.2.1, C.2.2.2.2.1⟩ hT (cwV nargs C.2.2.2.2.1 hgood rfl rfl rfl ⟨rfl, c1, c2, c3⟩ ⟨by rw [C.2.2.2.2.2.2.2.2.1]; exact c4, by rw [C.2.2.2.2.2.2.2.2.2.1]; exact c5⟩) ⟨TPre_blind, va_recv C.2.2.2.2.2.1 hP ok.1 hq, fun U hU hW => ⟨rfl, tpre_at C hP hD hS U hU hW⟩⟩ rfl (by rw [List.length_map, List.length_reverse, take_len hst]) hl.1 (by
            show st.map (xv ad ex) = _
            rw [← List.map_reverse, List.reverse_reverse, ← List.take_append_drop nargs st, List.map_append, List.take_append_drop, hst]
            rfl) (lv_room (by rw [cat_map]; exact Nat.le_of_ble_eq_true hcat)) hd ⟨by omega, by omega⟩
        exact run_on C hK rfl hmc hms h1 h2 h3 hrest.tl h5 h6 h7 hP hD hS hl hr
      · exact h.elim
    · exact h.elim
  · exact h.elim
theorem s_callS {d d' : TrD} {G : GX} {pc ix nargs mc ms : Nat} (cc : CallC d d' nargs) (hw1 : Cond.methodLink d.1.cls ix d'.1 ∈ WG) (hw2 : Cond.static d'.1 ∈ WG) (hd : decode d.2.1 pc = .ok (.invokestatic ix, 3)) : Snd d G pc (o_callS (pc + 3) nargs d' mc ms) := by
  intro p l e R s m args below meth c Z D cy ex A n0 ad0 Q C g K hK L st M b h ad H locs ls h1 h2 h3 h4 h5 h6 h7 hP hD hS hl
  unfold o_callS at h
  split at h
  · rename_i hlen hcat hmc hms
    have hmc := Nat.le_of_ble_eq_true hmc
    have hms := Nat.le_of_ble_eq_true hms
    have hlen := Nat.le_of_ble_eq_true hlen
    have hrest : scl M.length (st.drop nargs) := fun w hw => h4 w (List.mem_of_mem_drop hw)
    have hargs : scl M.length ((st.take nargs).reverse) := fun w hw => h4 w (List.mem_of_mem_take (List.mem_reverse.mp hw))
    have hT := h h3 hargs l D cy ex ad H.size C.2.2.2.2.2.2.2.2.2.2.2.1
    obtain ⟨c1, c2, c3, c4, c5, c6, c7⟩ := cc
    have hgood : GoodIn WG (va_wsS d.1.cls ix d'.1 (wsOf d')) := WG_in (by
      intro w hw
      simp only [va_wsS, wsOf, List.cons_append, List.nil_append, List.mem_cons] at hw
      rcases hw with rfl | rfl | rfl | rfl | hw
      · exact hw1
      · exact hw2
      · exact c6
      · exact c7
      · exact hw)
    have hr := vx_runS (e := e) (below := below) (meth := meth) (As := ((st.take nargs).reverse).map (xv ad ex)) (rest := (st.drop nargs).map (xv ad ex)) (locs := locs) (cells := R.cells - b.1) (slots := R.slots - b.2) (g := F0 m pc ls (st.map (xv ad ex))) ⟨C.1, C.2.1, C.2.2.1, C.2.2.2.1, C.2.2.2.2.1⟩ hT (va_cwS nargs C.2.2.2.2.1 hgood rfl rfl rfl ⟨c1, c2, c3⟩ ⟨by rw [C.2.2.2.2.2.2.2.2.1]; exact c4, by rw [C.2.2.2.2.2.2.2.2.2.1]; exact c5⟩) ⟨TPre_blind, fun U hU hW => ⟨rfl, tpre_at C hP hD hS U hU hW⟩⟩ rfl (by rw [List.length_map, List.length_reverse, List.length_take]; omega) hl.1 (by
        show st.map (xv ad ex) = _
        rw [← List.map_reverse, List.reverse_reverse, ← List.map_append, List.take_append_drop]) (lv_room (by rw [cat_map]; exact Nat.le_of_ble_eq_true hcat)) hd ⟨by omega, by omega⟩
    exact run_on C hK rfl hmc hms h1 h2 h3 hrest h5 h6 h7 hP hD hS hl hr
  · exact h.elim
end
section
/-! ===== a triple out of sound code ===== -/
def Clo (code : Nat → WOp) (Q : AQ) (X : WK) : Prop :=
  (∀ K : WK, (∀ pc L st M b, K pc L st M b → X pc L st M b) → ∀ (pc : Nat) (L : AL) (st : List Value) (M : AM) (b : AB), code pc K Q L st M b → X pc L st M b) ∧
  (∀ (pc : Nat) (L L' : AL) (st : List Value) (M : AM) (b : AB), (∀ (i : Nat) (v : Value), L'[i]? = some (some v) → L[i]? = some (some v)) → X pc L' st M b → X pc L st M b)
def entV (v : Value) : AL := match v with
  | .long _ => [some v, none]
  | .double _ => [some v, none]
  | _ => [some v]
def entL (n : Nat) (a : List Value) : AL := a.flatMap entV ++ List.replicate (n - (a.flatMap entV).length) none
theorem entV_xl {ad ex : Nat → Nat} : ∀ (a : List Value) (i k : Nat) (v : Value), (a.flatMap entV)[k]? = some (some v) → (i + k, xv ad ex v) ∈ lv_args i (a.map (xv ad ex))
  | [], i, k, v, h => by simp at h
  | w :: a, i, k, v, h => by
    rw [List.flatMap_cons] at h
    rw [List.map_cons]
    show _ ∈ (i, xv ad ex w) :: lv_args (if (xv ad ex w).category = 2 then i + 2 else i + 1) (a.map (xv ad ex))
    rw [xv_cat]
    by_cases hc : w.category = 2
    · have e : entV w = [some w, none] := by cases w <;> first | rfl | cases hc
      rw [e] at h
      rw [if_pos hc]
      match k, h with
      | 0, h => cases h; exact List.mem_cons_self
      | 1, h => cases h
      | k + 2, h =>
        have := entV_xl (ad := ad) (ex := ex) a (i + 2) k v h
        rw [show i + 2 + k = i + (k + 2) by omega] at this
        exact List.mem_cons_of_mem _ this
    · have e : entV w = [some w] := by cases w <;> first | rfl | exact absurd rfl hc
      rw [e] at h
      rw [if_neg hc]
      match k, h with
      | 0, h => cases h; exact List.mem_cons_self
      | k + 1, h =>
        have := entV_xl (ad := ad) (ex := ex) a (i + 1) k v h
        rw [show i + 1 + k = i + (k + 1) by omega] at this
        exact List.mem_cons_of_mem _ this
theorem entL_at {n : Nat} {a : List Value} {k : Nat} {v : Value} (h : (entL n a)[k]? = some (some v)) : (a.flatMap entV)[k]? = some (some v) := by
  unfold entL at h
  rw [List.getElem?_append] at h
  split at h
  · exact h
  · have := List.mem_of_getElem? h
    rw [List.mem_replicate] at this
    cases this.2
theorem entL_len {ad ex : Nat → Nat} : ∀ a : List Value, (lg_sl (a.map (xv ad ex))).length = (a.flatMap entV).length
  | [] => rfl
  | w :: a => by
    rw [List.map_cons, List.flatMap_cons, List.length_append]
    show (List.flatMap _ (xv ad ex w :: a.map (xv ad ex))).length = _
    rw [List.flatMap_cons, List.length_append]
    have ih := entL_len (ad := ad) (ex := ex) a
    unfold lg_sl at ih
    rw [ih, xv_cat]
    congr 1
    cases w <;> rfl
theorem entL_cl {n m : Nat} {a : List Value} (h : scl m a) : lcl m (entL n a) := by
  intro i v hv
  have h1 := List.mem_of_getElem? (entL_at hv)
  obtain ⟨w, hw, hv2⟩ := List.mem_flatMap.mp h1
  have : v = w := by cases w <;> simp [entV] at hv2 <;> exact hv2
  rw [this]
  exact h w hw
theorem Tr.of {d : TrD} {mc ms : Nat} {a : List Value} {M : AM} {Q : AQ} {code : Nat → WOp} (hs : ∀ pc, Snd d (fun _ _ _ => True) pc (code pc)) (hy : plainName d.1.cls = true) (hn : (a.flatMap entV).length ≤ d.2.2.1)
    (body : ∀ X : WK, Clo code Q X → X 0 (entL d.2.2.1 a) [] M (mc, ms)) : Tr d mc ms a M Q := by
  intro hM ha l D cy ex ad sz hl0
  refine vx_ofW (cc := d.2.1) (maxL := d.2.2.1) (ret := d.2.2.2.1) hy rfl ?_
  intro p e s m args below meth c s₁ B hml ht hv
  obtain ⟨rfl, hsz, hP, hK, hD0, hE⟩ := hv
  have hb := B.bytes
  have hts := atoms_spec (ws := wsOf d) B.pre
  have hlocks := B.notSynchronized
  subst hsz
  have hD := hD0.self (sz := s.heap.size)
  generalize hAe : va_A (xw cy ad ex M) s.heap.size = A at hD hE ⊢
  have hA : ∀ q : Nat, s.heap.size ≤ q → A q := fun q h => by rw [← hAe]; exact Or.inr h
  have C : Cx d p l e (rmOf d mc ms) s m ((a.map (xv ad ex)).toArray) below meth c (vx_MQ below (TRet D cy ex ad M A Q) (TThr D cy ex ad M A Q) ((a.map (xv ad ex)).toArray) s mc ms A) D cy ex A M.length ad Q := by
    refine ⟨B.exec, hb, hml, findClass_of_methodNamed B.named, fun w hw => hts w (List.mem_cons_of_mem _ hw), hK, hE, hA, rfl, rfl, fun h => (name_of_methodNamed B.named B.method).1.trans h, hl0, ?_⟩
    have fin : ∀ (v : Option Value) (M' : AM) (ad' : Nat → Nat) (H : Heap) (locs : List Loc), Q (.inl v) M' → Agr M.length ad ad' → M.length ≤ M'.length → mcl M' → (∀ w, v = some w → vcl M'.length w) → va_P D vwCl (xw cy ad' ex M') H → va_D A (xw cy ad' ex M') → va_S A s.heap H locs → ∀ t : State, t.heap = H → s.WarmedH t.vm → TRet D cy ex ad M A Q ((a.map (xv ad ex)).toArray) s (.returned (v.map (xv ad' ex))) t := by
      intro v M' ad' H locs hQ h1 h2 h3 h4 hP' hD' hS' t htH hW
      exact ⟨⟨ad', v, M', rfl, hQ, h1, h2, h3, h4, by rw [htH]; exact hP', hD'⟩, hS'.F htH⟩
    refine ⟨?_, ?_, ?_, ?_, ?_, ?_⟩
    · intro pc L x M' b hd hr hQ ad' H locs ls h1 h2 h3 h4 h5 h6 h7 hP' hD' hS' hl'
      obtain ⟨ty, hr1, hr2⟩ := hr
      refine W.widen (k := mc) (n := ms) (Nat.sub_le _ _) (Nat.sub_le _ _) (vx_ret ?_)
      exact W.zret (v := x) B.exec hb (B.returns.trans hr1) hr2 (fin (some (.int x)) M' ad' H locs hQ h1 h2 h3 (fun w hw => by cases hw; exact trivial) hP' hD' hS') hS'.2.2 hd
    · intro pc L x M' b hd hr hQ ad' H locs ls h1 h2 h3 h4 h5 h6 h7 hP' hD' hS' hl'
      refine W.widen (k := mc) (n := ms) (Nat.sub_le _ _) (Nat.sub_le _ _) (vx_ret ?_)
      exact W.lret (v := x) B.exec hb (B.returns.trans hr) (fin (some (.long x)) M' ad' H locs hQ h1 h2 h3 (fun w hw => by cases hw; exact trivial) hP' hD' hS') hS'.2.2 hd
    · intro pc L u M' b hd hr hQ ad' H locs ls h1 h2 h3 h4 h5 h6 h7 hP' hD' hS' hl'
      obtain ⟨n, hr1⟩ := hr
      refine W.widen (k := mc) (n := ms) (Nat.sub_le _ _) (Nat.sub_le _ _) (vx_ret ?_)
      exact W.aret (v := .ref (ex u.toNat)) (rt := .object n) B.exec hb (B.returns.trans hr1) (Or.inl ⟨n, rfl⟩) (Or.inr ⟨_, rfl⟩) (fin (some (.float u)) M' ad' H locs hQ h1 h2 h3 (fun w hw => by cases hw; exact trivial) hP' hD' hS') hS'.2.2 hd
    · intro pc L M' b hd hr hQ ad' H locs ls h1 h2 h3 h4 h5 h6 h7 hP' hD' hS' hl'
      refine W.widen (k := mc) (n := ms) (Nat.sub_le _ _) (Nat.sub_le _ _) (vx_ret ?_)
      exact W.vret B.exec hb (B.returns.trans hr) (fin none M' ad' H locs hQ h1 h2 h3 (fun w hw => by cases hw) hP' hD' hS') hS'.2.2 hd
    · intro pc E ce q H M' b ad' ls rest locs hQ h1 h2 h3 h6 h7 hP' hD' hS' hce hcv hcl
      exact vx_out (fun x hx => (ht x hx).elim) hlocks hce hcv hcl (fun t htH hal => ⟨ad', M', hQ, h1, h2, h3, by rw [htH]; exact hP', hD', hS'.F htH⟩) hS'.2.2 (Nat.sub_le _ _) (Nat.sub_le _ _)
    · intro pc ik ic cls L M' b d0 d3 d4 d7 k1 k2 k3 k4 k5 k6 k7 k8 k9 hQ ad' H locs ls h1 h2 h3 h4 h5 h6 h7 hP' hD' hS' hl'
      have g1 : (rmOf d mc ms).cells - b.1 + 1 ≤ (rmOf d mc ms).cells := by show mc - b.1 + 1 ≤ mc; have : b.1 ≤ mc := h6; omega
      have g2 : (rmOf d mc ms).slots - b.2 + 6 ≤ (rmOf d mc ms).slots := by show ms - b.2 + 6 ≤ ms; have : b.2 ≤ ms := h7; omega
      refine vx_throw0 (rest := []) B.exec hb hl0 (names := ["java/lang/RuntimeException", "java/lang/Exception"]) (findClass_of_methodNamed B.named) k1 (by decide +kernel) k2 k3 k4 k5 hE.2.2.2.2.1.1 hE.2.2.2.2.1.2 hS' (hl'.1.trans hml.symm) d0 d3 d4 d7 (fun x hx => (ht x hx).elim) k6 (by show 0 + (13 * 3 + 42) ≤ _; omega) g1 g2 hlocks ?_ hS'.2.2 g1 g2
      intro t hal hz hk
      refine ⟨ad', M', hQ, h1, h2, h3, hP'.kept (fun k x hx => hk x.1 ((hP' k x hx).lt)), hD', ⟨Nat.le_trans hS'.1 hz, fun q g1 g2 => by rw [hk q (Nat.lt_of_lt_of_le g1 hS'.1)]; exact hS'.2.1 q g1 g2⟩⟩
  have hX := body (XX p l e (rmOf d mc ms) s m ((a.map (xv ad ex)).toArray) below meth c (vx_MQ below (TRet D cy ex ad M A Q) (TThr D cy ex ad M A Q) ((a.map (xv ad ex)).toArray) s mc ms A) D cy ex A M.length ad d.2.2.1)
    ⟨fun K hK pc L st M' b h => hs pc p l e (rmOf d mc ms) s m _ below meth c _ D cy ex A M.length ad Q C trivial K hK L st M' b h,
     fun pc L L' st M' b hsub h ad' H locs ls h1 h2 h3 h4 h5 h6 h7 hP' hD' hS' hl' => h ad' H locs ls h1 h2 h3 h4 (fun i v hv => h5 i v (hsub i v hv)) h6 h7 hP' hD' hS' (xl_sub hl' hsub)⟩
  have hl1 := lv_entry (a.map (xv ad ex)) (n := d.2.2.1) (by rw [entL_len]; exact hn)
  rw [lg_entry_eq]
  have hl2 : lv_has ((lg_sl (a.map (xv ad ex)) ++ List.replicate (d.2.2.1 - (lg_sl (a.map (xv ad ex))).length) Slot.unset).toArray) d.2.2.1 (xl ad ex (entL d.2.2.1 a)) := ⟨hl1.1, hl1.2.1, fun q hq => by
    obtain ⟨v, hv1, hv2⟩ := xl_mem.mp hq
    have := entV_xl (ad := ad) (ex := ex) a 0 q.1 v (entL_at hv1)
    rw [Nat.zero_add, ← hv2] at this
    exact hl1.2.2 q this⟩
  have w := hX ad s.heap [] _ Agr.rf (Nat.le_refl _) hM (fun w hw => by cases hw) (entL_cl ha) (Nat.le_refl _) (Nat.le_refl _) hP hD va_S.rf hl2
  have e1 : (rmOf d mc ms).cells - (mc, ms).1 = 0 := Nat.sub_self mc
  have e2 : (rmOf d mc ms).slots - (mc, ms).2 = 0 := Nat.sub_self ms
  rw [e1, e2] at w
  exact w
theorem vx_conseq {l : Launch} {y : MethodName} {ws : List Cond} {rm : Room} {P P' : Array Value → State → Prop} {Qc Qc' : Array Value → State → Outcome → State → Prop} {XC XC' : String → State → State → Prop} {mc ms : Nat} {free free' : Addr → Prop} (h : vx_Met l y ws rm P Qc XC mc ms free) (hP : ∀ a s, P' a s → P a s) (hQ : ∀ a s o t, P' a s → Qc a s o t → Qc' a s o t) (hX : ∀ a E s t, P' a s → XC E s t → XC' E s t) (hf : ∀ a s, P' a s → ∀ q, free q → free' q) : vx_Met l y ws rm P' Qc' XC' mc ms free' := by
  intro p e h1 h2 h3 s m args below h4 h5 h6 h7
  obtain ⟨n, o, g1, g2, g3, g4⟩ := h p e h1 h2 h3 s m args below h4 h5 (hP _ _ h6) h7
  refine ⟨n, o, g1, g2, g3, ?_⟩
  rcases g4 with ⟨q, L, hL, hf2⟩ | ⟨q, ho, E, ce, L, hx, k1, k2, k3, k4, k5, k6⟩
  · exact Or.inl ⟨hQ _ _ _ _ h6 q, L, hL, fun z hz => hf _ _ h6 _ (hf2 z hz)⟩
  · exact Or.inr ⟨q, ho, E, ce, L, hX _ _ _ _ h6 hx, k1, k2, k3, k4, k5, fun z hz => hf _ _ h6 _ (k6 z hz)⟩
theorem met_of {l : Launch} {y : MethodName} {ws : List Cond} {rm : Room} {P : Array Value → State → Prop} {Qc Qc' : Array Value → State → Outcome → State → Prop} {XC : String → State → State → Prop} {mc ms : Nat} {free : Addr → Prop} (h : vx_Met l y ws rm P Qc XC mc ms free) (hQ : ∀ a s o t, Qc a s o t → Qc' a s o t) (hX : ∀ E s t, ¬ XC E s t) : Met l y ws rm P Qc' mc ms free := by
  intro p e h1 h2 h3 s m args below h4 h5 h6 h7
  obtain ⟨n, o, g1, g2, g3, g4⟩ := h p e h1 h2 h3 s m args below h4 h5 h6 h7
  refine ⟨n, o, g1, g2, g3, ?_⟩
  rcases g4 with ⟨q, L, hL, hf2⟩ | ⟨q, ho, E, ce, L, hx, -⟩
  · exact ⟨hQ _ _ _ _ q, L, hL, hf2⟩
  · exact absurd hx (hX _ _ _)
theorem Tr.mono {d : TrD} {mc ms : Nat} {a : List Value} {M : AM} {Q Q' : AQ} (h : Tr d mc ms a M Q) (hQ : ∀ o M', Q o M' → Q' o M') : Tr d mc ms a M Q' := by
  intro hM ha l D cy ex ad sz hl
  refine vx_conseq (h hM ha l D cy ex ad sz hl) (fun _ _ q => q) ?_ ?_ (fun _ _ _ _ q => q)
  · rintro a s o t - ⟨⟨ad', v, M', h1, h2, h3⟩, hF⟩
    exact ⟨⟨ad', v, M', h1, hQ _ _ h2, h3⟩, hF⟩
  · rintro a E s t - ⟨ad', M', h1, h2⟩
    exact ⟨ad', M', hQ _ _ h1, h2⟩
/-! walking: from a place to the next stop -/
def blk (code : Nat → WOp) (X : WK) (Q : AQ) (stop : Nat → Option Nat) : Nat → WK
  | 0 => X
  | n + 1 => fun pc L st M b => match stop pc with
    | some k => X pc (L.take k) st M b
    | none => code pc (blk code X Q stop n) Q L st M b
theorem blk_ok {code : Nat → WOp} {X : WK} {Q : AQ} (hX : Clo code Q X) {stop : Nat → Option Nat} : ∀ (n : Nat) (pc : Nat) (L : AL) (st : List Value) (M : AM) (b : AB), blk code X Q stop n pc L st M b → X pc L st M b
  | 0, _, _, _, _, _, h => h
  | n + 1, pc, L, st, M, b, h => by
    unfold blk at h
    split at h
    · rename_i k hk
      refine hX.2 pc L (L.take k) st M b (fun i v hv => ?_) h
      rw [List.getElem?_take] at hv
      split at hv
      · exact hv
      · cases hv
    · exact hX.1 _ (blk_ok hX n) _ _ _ _ _ h
theorem go {code : Nat → WOp} {X : WK} {Q : AQ} (hX : Clo code Q X) (stop : Nat → Option Nat) (n : Nat) {pc : Nat} {L : AL} {st : List Value} {M : AM} {b : AB} (h : code pc (blk code X Q stop n) Q L st M b) : X pc L st M b := hX.1 _ (blk_ok hX n) _ _ _ _ _ h
end
section
/-! ===== a triple over a part of a bigger world ===== -/
def embF (emb : List Nat) (nb : Nat) (k : Nat) : Nat := emb.getD k (nb + (k - emb.length))
def upv (f : Nat → Nat) : Value → Value
  | .ref k => .ref (f k)
  | v => v
def upc (f : Nat → Nat) : XCn → XCn
  | .inr (.inr (.inr (.inr g))) => .inr (.inr (.inr (.inr (fun j => (g j).map f))))
  | c => c
def upo (f : Nat → Nat) : AO → AO
  | .inl (t, n, c) => .inl (t, n, upc f c)
  | .inr (ci, fs) => .inr (ci, fs.map (upv f))
def upr (f : Nat → Nat) : AR → AR
  | .inl v => .inl (v.map (upv f))
  | .inr E => .inr E
def setAll (f : Nat → Nat) : AM → List Nat → AM → AM
  | Mb, k :: ks, o :: os => setAll f (Mb.set k (upo f o)) ks os
  | Mb, _, _ => Mb
def mrg (emb : List Nat) (Mb M' : AM) : AM := setAll (embF emb Mb.length) Mb emb M' ++ (M'.drop emb.length).map (upo (embF emb Mb.length))
theorem setAll_len {f : Nat → Nat} : ∀ (Mb : AM) (ks : List Nat) (os : AM), (setAll f Mb ks os).length = Mb.length
  | Mb, k :: ks, o :: os => by
    show (setAll f (Mb.set k (upo f o)) ks os).length = _
    rw [setAll_len, List.length_set]
  | _, [], _ => by unfold setAll; rfl
  | _, _ :: _, [] => by unfold setAll; rfl
theorem setAll_ne {f : Nat → Nat} {i : Nat} : ∀ (Mb : AM) (ks : List Nat) (os : AM), i ∉ ks → (setAll f Mb ks os)[i]? = Mb[i]?
  | Mb, k :: ks, o :: os, h => by
    show (setAll f (Mb.set k (upo f o)) ks os)[i]? = _
    have hk : ¬ k = i := fun q => h (by rw [q]; exact List.mem_cons_self)
    rw [setAll_ne _ ks os (fun q => h (List.mem_cons_of_mem _ q)), List.getElem?_set, if_neg hk]
  | _, [], _, _ => by unfold setAll; rfl
  | _, _ :: _, [], _ => by unfold setAll; rfl
theorem setAll_at {f : Nat → Nat} : ∀ (Mb : AM) (ks : List Nat) (os : AM) (j k : Nat) (o : AO), (∀ i j' : Nat, ∀ a, ks[i]? = some a → ks[j']? = some a → i = j') → ks[j]? = some k → os[j]? = some o → k < Mb.length → (setAll f Mb ks os)[k]? = some (upo f o)
  | Mb, k0 :: ks, o0 :: os, 0, k, o, hn, h1, h2, h3 => by
    cases h1; cases h2
    show (setAll f (Mb.set k0 (upo f o0)) ks os)[k0]? = _
    rw [setAll_ne, List.getElem?_set, if_pos rfl, if_pos h3]
    intro q
    obtain ⟨i, hi⟩ := List.getElem?_of_mem q
    have := hn 0 (i + 1) k0 rfl hi
    omega
  | Mb, k0 :: ks, o0 :: os, j + 1, k, o, hn, h1, h2, h3 => by
    show (setAll f (Mb.set k0 (upo f o0)) ks os)[k]? = _
    exact setAll_at _ ks os j k o (fun i j' a q1 q2 => Nat.succ.inj (hn (i + 1) (j' + 1) a q1 q2)) h1 h2 (by rw [List.length_set]; exact h3)
  | Mb, k0 :: ks, [], j, k, o, hn, h1, h2, h3 => by simp at h2
  | Mb, [], os, j, k, o, hn, h1, h2, h3 => by simp at h1
theorem upv_xv {f ad ex : Nat → Nat} (v : Value) : xv ad ex (upv f v) = xv (fun k => ad (f k)) ex v := by cases v <;> rfl
theorem upo_xo {f cy ad ex : Nat → Nat} (o : AO) : xo cy ad ex (upo f o) = xo cy (fun k => ad (f k)) ex o := by
  rcases o with ⟨t, n, c⟩ | ⟨ci, fs⟩
  · rcases c with c | c | c | c | g
    · rfl
    · rfl
    · rfl
    · rfl
    · show (Sum.inl (cy t, n, Sum.inr (Sum.inr (Sum.inr (Sum.inr (fun j => ((g j).map f).map ad))))) : va_E) = Sum.inl (cy t, n, Sum.inr (Sum.inr (Sum.inr (Sum.inr (fun j => (g j).map (fun k => ad (f k)))))))
      congr 7
      funext j
      cases g j <;> rfl
  · show (Sum.inr (ci, (fs.map (upv f)).map (xv ad ex)) : va_E) = Sum.inr (ci, fs.map (xv (fun k => ad (f k)) ex))
    rw [List.map_map]
    congr 2
    exact List.map_congr_left fun v _ => upv_xv v
theorem upv_cl {f : Nat → Nat} {n m : Nat} (h : ∀ k, k < n → f k < m) {v : Value} (hv : vcl n v) : vcl m (upv f v) := by cases v <;> first | exact h _ hv | exact trivial
theorem upo_cl {f : Nat → Nat} {n m : Nat} (h : ∀ k, k < n → f k < m) {o : AO} (ho : ocl n o) : ocl m (upo f o) := by
  rcases o with ⟨t, z, c⟩ | ⟨ci, fs⟩
  · rcases c with c | c | c | c | g <;> try exact trivial
    intro j k hk
    cases hg : g j with
    | none => simp [hg] at hk
    | some q => simp [hg] at hk; rw [← hk]; exact h q (ho j q hg)
  · intro v hv
    obtain ⟨w, hw, rfl⟩ := List.mem_map.mp hv
    exact upv_cl h (ho w hw)
theorem upv_cl' {f : Nat → Nat} {n m : Nat} (h : ∀ k, f k < m → k < n) {v : Value} (hv : vcl m (upv f v)) : vcl n v := by cases v <;> first | exact h _ hv | exact trivial
theorem upo_cl' {f : Nat → Nat} {n m : Nat} (h : ∀ k, f k < m → k < n) {o : AO} (ho : ocl m (upo f o)) : ocl n o := by
  rcases o with ⟨t, z, c⟩ | ⟨ci, fs⟩
  · rcases c with c | c | c | c | g <;> try exact trivial
    intro j k hk
    exact h k (ho j (f k) (by simp [hk]))
  · intro v hv
    exact upv_cl' h (ho _ (List.mem_map.mpr ⟨v, hv, rfl⟩))
theorem xv_agr2 {ad ad' ex : Nat → Nat} {n : Nat} {v : Value} (h : ∀ k, k < n → ad k = ad' k) (hv : vcl n v) : xv ad ex v = xv ad' ex v := xv_agr (n := n) (ad := ad') (ad' := ad) h hv
/-- what the part's end says of the whole -/
theorem lift_end {D : va_G} {cy ex ad adc : Nat → Nat} {A A1 : Nat → Prop} {emb : List Nat} {M Mb M' : AM} {H0 H : Heap}
    (hlen : emb.length = M.length) (hnd : ∀ i j : Nat, ∀ a, emb[i]? = some a → emb[j]? = some a → i = j) (hin : ∀ k ∈ emb, k < Mb.length) (hMb : mcl Mb) (hle : M.length ≤ M'.length) (hM' : mcl M')
    (hP : va_P D vwCl (xw cy ad ex Mb) H0) (hD : va_D A (xw cy ad ex Mb)) (hA1 : A1 = va_A (xw cy (fun k => ad (embF emb Mb.length k)) ex M) H0.size) (hAA : ∀ q, A1 q → A q)
    (hag : Agr M.length (fun k => ad (embF emb Mb.length k)) adc) (hP1 : va_P D vwCl (xw cy adc ex M') H) (hD1 : va_D A1 (xw cy adc ex M')) (hk : ∀ q : Nat, q < H0.size → ¬ A1 q → H[q]? = H0[q]?) :
    ∃ ad' : Nat → Nat, Agr Mb.length ad ad' ∧ Mb.length ≤ (mrg emb Mb M').length ∧ mcl (mrg emb Mb M') ∧ (∀ v, vcl M'.length v → vcl (mrg emb Mb M').length (upv (embF emb Mb.length) v) ∧ xv ad' ex (upv (embF emb Mb.length) v) = xv adc ex v) ∧ va_P D vwCl (xw cy ad' ex (mrg emb Mb M')) H ∧ va_D A (xw cy ad' ex (mrg emb Mb M')) := by
  have hF : ∀ k a, emb[k]? = some a → embF emb Mb.length k = a := fun k a h => by unfold embF; rw [List.getD_eq_getElem?_getD, h]; rfl
  have hF2 : ∀ k, emb.length ≤ k → embF emb Mb.length k = Mb.length + (k - emb.length) := fun k h => by unfold embF; rw [List.getD_eq_getElem?_getD, List.getElem?_eq_none h]; rfl
  have hL : (mrg emb Mb M').length = Mb.length + (M'.length - emb.length) := by unfold mrg; rw [List.length_append, setAll_len, List.length_map, List.length_drop]
  have hFlt : ∀ k, k < M'.length → embF emb Mb.length k < (mrg emb Mb M').length := by
    intro k hk2
    rw [hL]
    by_cases h : k < emb.length
    · have h3 := List.getElem?_eq_getElem h
      rw [hF k _ h3]
      have := hin _ (List.getElem_mem h)
      omega
    · rw [hF2 k (by omega)]; omega
  obtain ⟨ad', hda⟩ : ∃ z : Nat → Nat, z = fun j => if j < Mb.length then ad j else adc (emb.length + (j - Mb.length)) := ⟨_, rfl⟩
  have hag2 : Agr Mb.length ad ad' := fun k hk2 => by rw [hda]; exact if_pos hk2
  have hcomp : ∀ k, k < M'.length → ad' (embF emb Mb.length k) = adc k := by
    intro k hk2
    by_cases h : k < emb.length
    · have h3 := List.getElem?_eq_getElem h
      have h4 := hin _ (List.getElem_mem h)
      have h5 := hag k (by omega)
      have h5' : adc k = ad (embF emb Mb.length k) := h5
      rw [h5', hF k _ h3, hag2 _ h4]
    · rw [hF2 k (by omega), hda]
      show (if _ then _ else _) = _
      rw [if_neg (by omega)]
      congr 1
      omega
  have hxv : ∀ v, vcl M'.length v → xv ad' ex (upv (embF emb Mb.length) v) = xv adc ex v := fun v hv => by
    rw [upv_xv]
    exact xv_agr (n := M'.length) (fun k hk2 => hcomp k hk2) hv
  have hxo : ∀ o, ocl M'.length o → xo cy ad' ex (upo (embF emb Mb.length) o) = xo cy adc ex o := fun o ho => by
    rw [upo_xo]
    exact xo_agr (n := M'.length) (fun k hk2 => hcomp k hk2) ho
  -- the cells by their places
  have get1 : ∀ (j : Nat) (o : AO), M'[j]? = some o → (mrg emb Mb M')[embF emb Mb.length j]? = some (upo (embF emb Mb.length) o) := by
    intro j o ho
    unfold mrg
    by_cases h : j < emb.length
    · have h3 := List.getElem?_eq_getElem h
      have h4 := hin _ (List.getElem_mem h)
      rw [hF j _ h3, List.getElem?_append_left (by rw [setAll_len]; exact h4)]
      exact setAll_at _ _ _ j _ _ hnd h3 ho h4
    · rw [hF2 j (by omega), List.getElem?_append_right (by rw [setAll_len]; omega), setAll_len, List.getElem?_map, List.getElem?_drop]
      rw [show emb.length + (Mb.length + (j - emb.length) - Mb.length) = j by omega, ho]
      rfl
  have get2 : ∀ i, (mrg emb Mb M')[i]? = none ∨ (∃ (j : Nat) (o : AO), M'[j]? = some o ∧ i = embF emb Mb.length j) ∨ (i ∉ emb ∧ i < Mb.length ∧ (mrg emb Mb M')[i]? = Mb[i]?) := by
    intro i
    by_cases h1 : i < Mb.length
    · by_cases h2 : i ∈ emb
      · obtain ⟨j, hj⟩ := List.getElem?_of_mem h2
        have hjl : j < M'.length := by have := (List.getElem?_eq_some_iff.mp hj).1; omega
        exact Or.inr (Or.inl ⟨j, _, List.getElem?_eq_getElem hjl, (hF j i hj).symm⟩)
      · refine Or.inr (Or.inr ⟨h2, h1, ?_⟩)
        unfold mrg
        rw [List.getElem?_append_left (by rw [setAll_len]; exact h1), setAll_ne _ _ _ h2]
    · by_cases h3 : i < (mrg emb Mb M').length
      · rw [hL] at h3
        refine Or.inr (Or.inl ⟨emb.length + (i - Mb.length), _, List.getElem?_eq_getElem (by omega), ?_⟩)
        rw [hF2 _ (by omega)]; omega
      · exact Or.inl (List.getElem?_eq_none (by omega))
  have hmcl : mcl (mrg emb Mb M') := by
    intro o ho
    obtain ⟨i, hi⟩ := List.getElem?_of_mem ho
    rcases get2 i with h | ⟨j, o2, h1, rfl⟩ | ⟨h1, h2, h3⟩
    · rw [h] at hi; cases hi
    · rw [get1 j o2 h1] at hi
      cases hi
      exact upo_cl hFlt (hM'.at h1)
    · rw [h3] at hi
      exact (hMb.at hi).mono (by rw [hL]; omega)
  -- the cells apart from the part
  have apart : ∀ (i : Nat), i ∉ emb → i < Mb.length → ∀ o, Mb[i]? = some o → ¬ A1 (ad i) ∧ ad i < H0.size := by
    intro i h1 h2 o ho
    have hq := xw_at (cy := cy) (ad := ad) (ex := ex) ho
    have hlt : ad i < H0.size := (hP i _ hq).lt
    refine ⟨fun z => ?_, hlt⟩
    rw [hA1] at z
    rcases z with ⟨k, e, hk2⟩ | hk2
    · rw [xw_get] at hk2
      cases hMk : M[k]? with
      | none => rw [hMk] at hk2; cases hk2
      | some o2 =>
        rw [hMk] at hk2
        have hkl : k < emb.length := by have := (List.getElem?_eq_some_iff.mp hMk).1; omega
        have h3 := List.getElem?_eq_getElem hkl
        have h4 := hin _ (List.getElem_mem hkl)
        have e1 : ad (embF emb Mb.length k) = ad i := congrArg Prod.fst (Option.some.inj hk2)
        rw [hF k _ h3] at e1
        have hq2 := xw_at (cy := cy) (ad := ad) (ex := ex) (List.getElem?_eq_getElem h4)
        have := hD.1 _ _ _ _ hq2 hq e1
        exact h1 (this ▸ List.getElem_mem hkl)
    · omega
  refine ⟨ad', hag2, by rw [hL]; omega, hmcl, fun v hv => ⟨upv_cl hFlt hv, hxv v hv⟩, ?_, ?_⟩
  · intro i q hq
    rw [xw_get] at hq
    rcases get2 i with h | ⟨j, o2, h1, rfl⟩ | ⟨h1, h2, h3⟩
    · rw [h] at hq; cases hq
    · rw [get1 j o2 h1] at hq
      have e1 : q = (adc j, xo cy adc ex o2) := by
        have := (Option.some.inj hq).symm
        rw [this]
        show (ad' (embF emb Mb.length j), xo cy ad' ex (upo (embF emb Mb.length) o2)) = _
        rw [hcomp j (List.getElem?_eq_some_iff.mp h1).1, hxo o2 (hM'.at h1)]
      rw [e1]
      exact hP1 j _ (xw_at h1)
    · rw [h3] at hq
      cases hMi : Mb[i]? with
      | none => rw [hMi] at hq; cases hq
      | some o =>
        rw [hMi] at hq
        have e1 : q = (ad i, xo cy ad ex o) := by
          have := (Option.some.inj hq).symm
          rw [this]
          show (ad' i, xo cy ad' ex o) = _
          rw [hag2 i h2, xo_agr (n := Mb.length) hag2 (hMb.at hMi)]
        obtain ⟨g1, g2⟩ := apart i h1 h2 o hMi
        rw [e1]
        exact (hP i _ (xw_at hMi)).kept (hk _ g2 g1)
  · have key : ∀ (i : Nat) (q : Nat × va_E), (xw cy ad' ex (mrg emb Mb M'))[i]? = some q → (∃ (j : Nat) (o : AO), M'[j]? = some o ∧ i = embF emb Mb.length j ∧ q.1 = adc j) ∨ (i ∉ emb ∧ i < Mb.length ∧ q.1 = ad i ∧ ∃ o, Mb[i]? = some o) := by
      intro i q hq
      rw [xw_get] at hq
      rcases get2 i with h | ⟨j, o2, h1, rfl⟩ | ⟨h1, h2, h3⟩
      · rw [h] at hq; cases hq
      · rw [get1 j o2 h1] at hq
        refine Or.inl ⟨j, o2, h1, rfl, ?_⟩
        have := (Option.some.inj hq).symm
        rw [this]
        exact hcomp j (List.getElem?_eq_some_iff.mp h1).1
      · rw [h3] at hq
        cases hMi : Mb[i]? with
        | none => rw [hMi] at hq; cases hq
        | some o =>
          rw [hMi] at hq
          refine Or.inr ⟨h1, h2, ?_, o, rfl⟩
          have := (Option.some.inj hq).symm
          rw [this]
          exact hag2 i h2
    refine ⟨fun i j x y hi hj hxy => ?_, fun i q hq => ?_⟩
    · rcases key i x hi with ⟨a, oa, ha, rfl, ea⟩ | ⟨a1, a2, ea, oa, ha⟩ <;> rcases key j y hj with ⟨b, ob, hb, rfl, eb⟩ | ⟨b1, b2, eb, ob, hb⟩
      · have : a = b := hD1.1 a b _ _ (xw_at ha) (xw_at hb) (by show adc a = adc b; rw [← ea, ← eb, hxy])
        rw [this]
      · exact absurd (by rw [← eb, ← hxy, ea]; exact hD1.2 a _ (xw_at (cy := cy) (ad := adc) (ex := ex) ha)) (apart j b1 b2 ob hb).1
      · exact absurd (by rw [← ea, hxy, eb]; exact hD1.2 b _ (xw_at (cy := cy) (ad := adc) (ex := ex) hb)) (apart i a1 a2 oa ha).1
      · exact hD.1 i j _ _ (xw_at (cy := cy) (ad := ad) (ex := ex) ha) (xw_at hb) (by show ad i = ad j; rw [← ea, ← eb, hxy])
    · rcases key i q hq with ⟨a, oa, ha, rfl, ea⟩ | ⟨a1, a2, ea, oa, ha⟩
      · rw [ea]; exact hAA _ (hD1.2 a _ (xw_at (cy := cy) (ad := adc) (ex := ex) ha))
      · rw [ea]; exact hD.2 i _ (xw_at (cy := cy) (ad := ad) (ex := ex) ha)
theorem Tr.lift {d : TrD} {mc ms : Nat} {a a' : List Value} {M Mb : AM} {Q Q' : AQ} (emb : List Nat) (h : Tr d mc ms a M Q) (hn : va_nd emb = true) (hM : emb.map (fun k => Mb[k]?) = M.map (fun o => some (upo (embF emb Mb.length) o))) (ha : a' = a.map (upv (embF emb Mb.length)))
    (hQ : ∀ o M', M.length ≤ M'.length → Q o M' → Q' (upr (embF emb Mb.length) o) (mrg emb Mb M')) : Tr d mc ms a' Mb Q' := by
  intro hcM hca l D cy ex ad sz hl
  have hlen : emb.length = M.length := by have := congrArg List.length hM; rwa [List.length_map, List.length_map] at this
  have hat : ∀ (k : Nat) (o : AO), M[k]? = some o → ∃ i, emb[k]? = some i ∧ Mb[i]? = some (upo (embF emb Mb.length) o) := by
    intro k o ho
    have h1 : (emb.map (fun k => Mb[k]?))[k]? = some (some (upo (embF emb Mb.length) o)) := by rw [hM, List.getElem?_map, ho]; rfl
    rw [List.getElem?_map] at h1
    cases hi : emb[k]? with
    | none => rw [hi] at h1; cases h1
    | some i => rw [hi] at h1; exact ⟨i, rfl, Option.some.inj h1⟩
  have hin : ∀ k ∈ emb, k < Mb.length := by
    intro k hk
    obtain ⟨j, hj⟩ := List.getElem?_of_mem hk
    have hjl : j < M.length := by have := (List.getElem?_eq_some_iff.mp hj).1; omega
    obtain ⟨i, h1, h2⟩ := hat j _ (List.getElem?_eq_getElem hjl)
    rw [hj] at h1
    cases h1
    exact (List.getElem?_eq_some_iff.mp h2).1
  have hnd := va_nd_inj emb hn
  have hback : ∀ k, embF emb Mb.length k < Mb.length → k < M.length := by
    intro k hk
    unfold embF at hk
    rw [List.getD_eq_getElem?_getD] at hk
    by_cases h2 : k < emb.length
    · omega
    · rw [List.getElem?_eq_none (by omega)] at hk
      have : Mb.length + (k - emb.length) < Mb.length := hk
      omega
  have hmM : mcl M := by
    intro o ho
    obtain ⟨k, hk⟩ := List.getElem?_of_mem ho
    obtain ⟨i, h1, h2⟩ := hat k o hk
    exact upo_cl' hback (hcM.at h2)
  have hma : scl M.length a := fun v hv => upv_cl' hback (hca _ (by rw [ha]; exact List.mem_map.mpr ⟨v, hv, rfl⟩))
  have hF : ∀ k i, emb[k]? = some i → embF emb Mb.length k = i := fun k i h => by unfold embF; rw [List.getD_eq_getElem?_getD, h]; rfl
  have hcell : ∀ (k : Nat) (q : Nat × va_E), (xw cy (fun k => ad (embF emb Mb.length k)) ex M)[k]? = some q → ∃ i, emb[k]? = some i ∧ (xw cy ad ex Mb)[i]? = some q := by
    intro k q hq
    rw [xw_get] at hq
    cases hMk : M[k]? with
    | none => rw [hMk] at hq; cases hq
    | some o =>
      rw [hMk] at hq
      obtain ⟨i, h1, h2⟩ := hat k o hMk
      refine ⟨i, h1, ?_⟩
      rw [xw_at h2, ← hq, upo_xo, ← hF k i h1]
      rfl
  have hAA : ∀ q, va_A (xw cy (fun k => ad (embF emb Mb.length k)) ex M) sz q → va_A (xw cy ad ex Mb) sz q := by
    intro q hq
    rcases hq with ⟨k, e, hk⟩ | hq
    · obtain ⟨i, -, hi⟩ := hcell k _ hk
      exact Or.inl ⟨i, e, hi⟩
    · exact Or.inr hq
  have hargs : (a'.map (xv ad ex)) = a.map (xv (fun k => ad (embF emb Mb.length k)) ex) := by
    rw [ha, List.map_map]
    exact List.map_congr_left fun v _ => upv_xv v
  refine vx_conseq (h hmM hma l D cy ex (fun k => ad (embF emb Mb.length k)) sz hl) ?_ ?_ ?_ (fun _ _ _ => hAA)
  · rintro v U ⟨e1, e2, e3, e4, e5, e6⟩
    refine ⟨by rw [e1, hargs], e2, fun k q hq => ?_, e4, ⟨fun i j x y hi hj hxy => ?_, fun _ _ _ => trivial⟩, e6.narrow hAA⟩
    · obtain ⟨i, -, hi⟩ := hcell k q hq
      exact e3 i q hi
    · obtain ⟨i', hi1, hi2⟩ := hcell i x hi
      obtain ⟨j', hj1, hj2⟩ := hcell j y hj
      have := e5.1 i' j' x y hi2 hj2 hxy
      subst this
      exact hnd i j i' hi1 hj1
  · rintro v s o t ⟨e1, e2, e3, e4, e5, e6⟩ ⟨⟨adc, w, M', k1, k2, k3, k4, k5, k6, k7, k8⟩, kF⟩
    obtain ⟨ad', g1, g2, g3, g4, g5, g6⟩ := lift_end (A := va_A (xw cy ad ex Mb) sz) hlen hnd hin hcM k4 k5 e3 (e5.self (sz := sz)) (by rw [e2]) hAA k3 k7 k8 (fun q h1 h2 => kF.2 q h1 h2)
    refine ⟨⟨ad', w.map (upv (embF emb Mb.length)), mrg emb Mb M', ?_, hQ _ _ k4 k2, g1, g2, g3, ?_, g5, g6⟩, kF.1, fun q h1 h2 => kF.2 q h1 (fun z => h2 (hAA q z))⟩
    · rw [k1]
      cases w with
      | none => rfl
      | some z => show Outcome.returned (some (xv adc ex z)) = Outcome.returned (some (xv ad' ex (upv _ z))); rw [(g4 z (k6 z rfl)).2]
    · intro z hz
      cases w with
      | none => cases hz
      | some y => cases hz; exact (g4 y (k6 y rfl)).1
  · rintro v E s t ⟨e1, e2, e3, e4, e5, e6⟩ ⟨adc, M', k2, k3, k4, k5, k7, k8, kF⟩
    obtain ⟨ad', g1, g2, g3, g4, g5, g6⟩ := lift_end (A := va_A (xw cy ad ex Mb) sz) hlen hnd hin hcM k4 k5 e3 (e5.self (sz := sz)) (by rw [e2]) hAA k3 k7 k8 (fun q h1 h2 => kF.2 q h1 h2)
    exact ⟨ad', mrg emb Mb M', hQ _ _ k4 k2, g1, g2, g3, g5, g6, kF.1, fun q h1 h2 => kF.2 q h1 (fun z => h2 (hAA q z))⟩
end
section
/-! ===== new things, copies, Math, constructors ===== -/
def dflt : Value → Bool
  | .int _ => true
  | .long _ => true
  | .null => true
  | _ => false
theorem dflt_xv {ad ex : Nat → Nat} {v : Value} (h : dflt v = true) : xv ad ex v = v := by cases v <;> first | rfl | cases h
theorem dflt_cl {n : Nat} {v : Value} (h : dflt v = true) : vcl n v := by cases v <;> first | exact trivial | cases h
/-- what goes on behind a new cell -/
theorem XX_push {p : Program} {l : Launch} {e : Env} {R : Room} {s : State} {m : MethodId} {args : Array Value} {below : List Frame} {meth : Method} {c : Code} {Z : State → Prop} {D : va_G} {cy ex : Nat → Nat} {A : Nat → Prop} {n0 : Nat} {ad0 : Nat → Nat} {nL pc : Nat} {L : AL} {st : List Value} {M : AM} {b : AB} {o : AO} {ad : Nat → Nat} {q : Nat} {E : va_E} {H1 : Heap} {locs1 : List Loc} {ls : Array Slot}
    (h : XX p l e R s m args below meth c Z D cy ex A n0 ad0 nL pc L (.ref M.length :: st) (M ++ [o]) b) (h1 : Agr n0 ad0 ad) (h2 : n0 ≤ M.length) (h3 : mcl M) (ho : ocl (M.length + 1) o) (h4 : scl M.length st) (h5 : lcl M.length L) (h6 : b.1 ≤ R.cells) (h7 : b.2 ≤ R.slots)
    (hE : ∀ ad' : Nat → Nat, xo cy ad' ex o = E) (hP : va_P D vwCl (xw cy ad ex M ++ [(q, E)]) H1) (hD : va_D A (xw cy ad ex M ++ [(q, E)])) (hS : va_S A s.heap H1 locs1) (hl : lv_has ls nL (xl ad ex L)) : W p l e R s m args below meth c H1 locs1 (R.cells - b.1) (R.slots - b.2) Z (F0 m pc ls (.ref q :: st.map (xv ad ex))) := by
  obtain ⟨ad', hda⟩ : ∃ z : Nat → Nat, z = fun j => if j = M.length then q else ad j := ⟨_, rfl⟩
  have hag : Agr M.length ad ad' := fun k hk => by rw [hda]; exact if_neg (Nat.ne_of_lt hk)
  have hq : ad' M.length = q := by rw [hda]; exact if_pos rfl
  have ew : xw cy ad ex M ++ [(q, E)] = xw cy ad' ex (M ++ [o]) := by
    rw [← xw_push, hq, hE, xw_agr hag h3]
  have es : (Value.ref q :: st.map (xv ad ex)) = (Value.ref M.length :: st).map (xv ad' ex) := by
    rw [List.map_cons, st_agr hag h4]
    show _ = Value.ref (ad' M.length) :: _
    rw [hq]
  have el : (M ++ [o]).length = M.length + 1 := List.length_append
  rw [es]
  exact h ad' H1 locs1 ls (h1.tr hag h2) (by omega) (h3.push ho) (by rw [el]; exact scl.cons (Nat.lt_succ_self _) (h4.mono (Nat.le_succ _))) (by rw [el]; exact h5.mono (Nat.le_succ _)) h6 h7 (by rw [← ew]; exact hP) (by rw [← ew]; exact hD) hS (xl_agr hag h5 hl)
def o_new (n ci N : Nat) (fs : List Value) : WOp := fun K Q L st M b => match Nat.ble 1 b.1, Nat.ble N b.2 with
  | true, true => K n L (.ref M.length :: st) (M ++ [.inr (ci, fs)]) (b.1 - 1, b.2 - N)
  | _, _ => False
theorem s_new {d : TrD} {G : GX} {pc ix ci N : Nat} {C : String} {T : u_T} {ty : Nat → FieldType} {fs : List Value} (ok : ClOk ci C T N ty) (hfs : ∀ j, j < N → defaultValue (ty j) = vp_V fs j) (hdf : ∀ v ∈ fs, dflt v = true) (hw1 : Cond.classLink d.1.cls ix C ∈ WG) (hw2 : Cond.instantiable C N ∈ WG) (hw3 : Cond.initialized C ∈ WG) (hd : decode d.2.1 pc = .ok (.new ix, 3)) : Snd d G pc (o_new (pc + 3) ci N fs) := by
  intro p l e R s m args below meth c Z D cy ex A n0 ad0 Q C' g K hK L st M b h ad H locs ls h1 h2 h3 h4 h5 h6 h7 hP hD hS hl
  unfold o_new at h
  split at h
  · rename_i hb1 hb2
    have hb1 := Nat.le_of_ble_eq_true hb1
    have hb2 := Nat.le_of_ble_eq_true hb2
    refine va_new (ci := ci) (fs := fs) (C := C) (T := T) (N := N) C'.1 C'.2.1 C'.2.2.2.2.1 ok.2.1 ty ok.2.2.1 C'.2.2.2.1 (C'.2.2.2.2.1 _ hw1) (C'.2.2.2.2.1 _ hw2) (C'.2.2.2.2.1 _ hw3) C'.2.2.2.2.2.1 hP hD hS C'.2.2.2.2.2.2.2.1 ok.1 hfs (by omega) (by omega) hd (fun q H1 hP1 hD1 hS1 => ?_)
    have e1 : R.cells - b.1 + 1 = R.cells - (b.1 - 1) := by omega
    have e2 : R.slots - b.2 + N = R.slots - (b.2 - N) := by omega
    rw [e1, e2]
    refine XX_push (b := (b.1 - 1, b.2 - N)) (hK _ _ _ _ _ h) h1 h2 h3 (fun v hv => dflt_cl (hdf v hv)) h4 h5 (Nat.le_trans (Nat.sub_le _ _) h6) (Nat.le_trans (Nat.sub_le _ _) h7) (fun ad' => ?_) hP1 hD1 hS1 hl
    show (Sum.inr (ci, fs.map (xv ad' ex)) : va_E) = Sum.inr (ci, fs)
    congr 2
    exact (List.map_congr_left fun v hv => dflt_xv (hdf v hv)).trans (List.map_id' fs)
  · exact h.elim
/-- zeros of a primitive kind -/
def zerC (t : Nat) : XCn := match t with
  | 2 => .inr (.inl (fun _ => 0))
  | _ => .inl (fun _ => 0)
def o_newa (n t N : Nat) : WOp := fun K Q L st M b => match st, Nat.ble 1 b.1, Nat.ble N b.2 with
  | .int z :: st1, true, true => z = Int32.ofNat N ∧ K n L (.ref M.length :: st1) (M ++ [.inl (t, N, zerC t)]) (b.1 - 1, b.2 - N)
  | _, _, _ => False
theorem s_newa {d : TrD} {G : GX} {pc t N : Nat} {at_ : ArrayType} {ty : FieldType} (hty : newarray.typeOf at_ = ty) (ht : (t = 0 ∧ ty = .int) ∨ (t = 1 ∧ ty = .byte) ∨ (t = 2 ∧ ty = .long)) (hN : N < 1000) (hw : Cond.arrayClass ty ∈ WG) (hd : decode d.2.1 pc = .ok (.newarray at_, 2)) : Snd d G pc (o_newa (pc + 2) t N) := by
  intro p l e R s m args below meth c Z D cy ex A n0 ad0 Q C' g K hK L st M b h ad H locs ls h1 h2 h3 h4 h5 h6 h7 hP hD hS hl
  unfold o_newa at h
  split at h
  · rename_i z st1 hb1 hb2
    have hb1 := Nat.le_of_ble_eq_true hb1
    have hb2 := Nat.le_of_ble_eq_true hb2
    obtain ⟨hz, h⟩ := h
    have hz0 : ¬ z < 0 := by rw [hz]; exact nI_pos (n := N) (by omega)
    have hzN : z.toNatClampNeg = N := by rw [hz]; exact nI_clamp (n := N) (by omega)
    have hbt : N * componentBytes ty ≤ 536870912 := by
      rcases ht with ⟨_, rfl⟩ | ⟨_, rfl⟩ | ⟨_, rfl⟩
      · show N * 4 ≤ _; omega
      · show N * 1 ≤ _; omega
      · show N * 8 ≤ _; omega
    have ha : ∀ cA : ClassId, vp_cell cA (N, zerC t) = arrV cA N (fun _ => defaultValue ty) := by
      intro cA
      rcases ht with ⟨rfl, rfl⟩ | ⟨rfl, rfl⟩ | ⟨rfl, rfl⟩ <;> rfl
    refine va_newa (ty := ty) (a0 := (N, zerC t)) C'.1 C'.2.1 (by rw [hty]; exact C'.2.2.2.2.1 _ hw) hty C'.2.2.2.2.2.1 hP hD hS C'.2.2.2.2.2.2.2.1 ha hz0 hzN hbt (by omega) (by omega) hd (fun q cA H1 hK1 hP1 hD1 hS1 => ?_)
    have e1 : R.cells - b.1 + 1 = R.cells - (b.1 - 1) := by omega
    have e2 : R.slots - b.2 + N = R.slots - (b.2 - N) := by omega
    rw [e1, e2]
    have hcA : cA = cy t := by
      have k1 := (hK1.2 5 (cA, ty) rfl).2
      rcases ht with ⟨rfl, rfl⟩ | ⟨rfl, rfl⟩ | ⟨rfl, rfl⟩
      · exact Option.some.inj (k1.symm.trans (C'.2.2.2.2.2.1.2 0 (cy 0, .int) rfl).2)
      · exact Option.some.inj (k1.symm.trans (C'.2.2.2.2.2.1.2 1 (cy 1, .byte) rfl).2)
      · exact Option.some.inj (k1.symm.trans (C'.2.2.2.2.2.1.2 2 (cy 2, .long) rfl).2)
    subst hcA
    refine XX_push (b := (b.1 - 1, b.2 - N)) (o := .inl (t, N, zerC t)) (hK _ _ _ _ _ h) h1 h2 h3 ?_ h4.tl h5 (Nat.le_trans (Nat.sub_le _ _) h6) (Nat.le_trans (Nat.sub_le _ _) h7) (fun ad' => ?_) hP1 hD1 hS1 hl
    · rcases ht with ⟨rfl, rfl⟩ | ⟨rfl, rfl⟩ | ⟨rfl, rfl⟩ <;> exact trivial
    · rcases ht with ⟨rfl, rfl⟩ | ⟨rfl, rfl⟩ | ⟨rfl, rfl⟩ <;> rfl
  · exact h.elim
/-- new PlateArm$State[N] -/
def o_anewa (n N : Nat) : WOp := fun K Q L st M b => match st, Nat.ble 1 b.1, Nat.ble N b.2 with
  | .int z :: st1, true, true => z = Int32.ofNat N ∧ K n L (.ref M.length :: st1) (M ++ [.inl (3, N, .inr (.inr (.inr (.inr (fun _ => none)))))]) (b.1 - 1, b.2 - N)
  | _, _, _ => False
theorem s_anewa {d : TrD} {G : GX} {pc ix N : Nat} (hN : N < 1000) (hw : Cond.classLink d.1.cls ix "PlateArm$State" ∈ WG) (hd : decode d.2.1 pc = .ok (.anewarray ix, 3)) : Snd d G pc (o_anewa (pc + 3) N) := by
  intro p l e R s m args below meth c Z D cy ex A n0 ad0 Q C' g K hK L st M b h ad H locs ls h1 h2 h3 h4 h5 h6 h7 hP hD hS hl
  unfold o_anewa at h
  split at h
  · rename_i z st1 hb1 hb2
    have hb1 := Nat.le_of_ble_eq_true hb1
    have hb2 := Nat.le_of_ble_eq_true hb2
    obtain ⟨hz, h⟩ := h
    have hz0 : ¬ z < 0 := by rw [hz]; exact nI_pos (n := N) (by omega)
    have hzN : z.toNatClampNeg = N := by rw [hz]; exact nI_clamp (n := N) (by omega)
    refine va_newq C'.1 C'.2.1 C'.2.2.2.1 (C'.2.2.2.2.1 _ hw) (C'.2.2.2.2.2.2.1.2.2.2.2.2.2.2.2.2.1) C'.2.2.2.2.2.1 hP hD hS C'.2.2.2.2.2.2.2.1 hz0 hzN (by omega) (by omega) (by omega) hd (fun q cA H1 hK1 hP1 hD1 hS1 => ?_)
    have e1 : R.cells - b.1 + 1 = R.cells - (b.1 - 1) := by omega
    have e2 : R.slots - b.2 + N = R.slots - (b.2 - N) := by omega
    rw [e1, e2]
    have hcA : cA = cy 3 := by
      obtain ⟨_, _, _, _, _, k1⟩ := (hK1.2 5 (cA, .object "PlateArm$State") rfl).2
      obtain ⟨_, _, _, _, _, k2⟩ := (C'.2.2.2.2.2.1.2 3 (cy 3, .object "PlateArm$State") rfl).2
      exact Option.some.inj (k1.symm.trans k2)
    subst hcA
    exact XX_push (b := (b.1 - 1, b.2 - N)) (o := .inl (3, N, .inr (.inr (.inr (.inr (fun _ => none)))))) (hK _ _ _ _ _ h) h1 h2 h3 (fun j k hk => by cases hk) h4.tl h5 (Nat.le_trans (Nat.sub_le _ _) h6) (Nat.le_trans (Nat.sub_le _ _) h7) (fun ad' => rfl) hP1 hD1 hS1 hl
  · exact h.elim
/-- Object() -/
def o_objinit (n : Nat) : WOp := fun K Q L st M b => match st with
  | [.ref _] => K n L [] M b
  | _ => False
theorem s_objinit {d : TrD} {G : GX} {pc ix : Nat} (hw1 : Cond.methodLink d.1.cls ix Lib.objectInit ∈ WG) (hw2 : Cond.instanceMethod Lib.objectInit ∈ WG) (hw3 : Cond.code Lib.objectInit ⟨#[0xb1]⟩ 1 none ∈ WG) (hf : 1 ≤ d.2.2.2.2.1) (hlo : 12 ≤ d.2.2.2.2.2) (hd : decode d.2.1 pc = .ok (.invokespecial ix, 3)) : Snd d G pc (o_objinit (pc + 3)) := by
  intro p l e R s m args below meth c Z D cy ex A n0 ad0 Q C' g K hK L st M b h ad H locs ls h1 h2 h3 h4 h5 h6 h7 hP hD hS hl
  unfold o_objinit at h
  split at h
  · rename_i r
    refine W.objInit C'.1 C'.2.1 C'.2.2.2.1 (C'.2.2.2.2.1 _ hw1) (C'.2.2.2.2.1 _ hw2) (C'.2.2.2.2.1 _ hw3) (g := F0 m pc ls ([Value.ref r].map (xv ad ex))) rfl (by rw [C'.2.2.1]; exact hl.1) (rest := []) rfl hd (by rw [C'.2.2.2.2.2.2.2.2.1]; exact hf) (by rw [C'.2.2.2.2.2.2.2.2.2.1]; exact hlo) ?_
    exact hK _ _ _ _ _ h ad H locs ls h1 h2 h3 h4.tl h5 h6 h7 hP hD hS hl
  · exact h.elim
/-! constructors -/
def rKi (n : Nat) (mc ms : Nat) (K : WK) (L : AL) (rest : List Value) (b : AB) : AQ := fun o M' => match o with
  | .inl v => K n L (v.toList ++ rest) M' (b.1 - mc, b.2 - ms)
  | .inr _ => False
def o_callI (n nargs : Nat) (d' : TrD) (mc ms : Nat) : WOp := fun K Q L st M b => match st.drop nargs with
  | .ref r :: rest => match Nat.ble ((rest.map Value.category).sum) 8, Nat.ble mc b.1, Nat.ble ms b.2 with
    | true, true, true => Tr d' mc ms (.ref r :: (st.take nargs).reverse) M (rKi n mc ms K L rest b)
    | _, _, _ => False
  | _ => False
theorem s_callI {d d' : TrD} {G : GX} {pc ix nargs mc ms : Nat} (cc : CallC d d' nargs) (hin : d'.1.name = "<init>") (hret : d'.2.2.2.1 = none) (hw1 : Cond.methodLink d.1.cls ix d'.1 ∈ WG ∨ ∃ host, (d.1.cls, ix, d'.1, host) ∈ EWn) (hw2 : Cond.instanceMethod d'.1 ∈ WG) (hd : decode d.2.1 pc = .ok (.invokespecial ix, 3)) : Snd d G pc (o_callI (pc + 3) nargs d' mc ms) := by
  intro p l e R s m args below meth c Z D cy ex A n0 ad0 Q C g K hK L st M b h ad H locs ls h1 h2 h3 h4 h5 h6 h7 hP hD hS hl
  unfold o_callI at h
  split at h
  · rename_i r rest hst
    split at h
    · rename_i hcat hmc hms
      have hmc := Nat.le_of_ble_eq_true hmc
      have hms := Nat.le_of_ble_eq_true hms
      have hrest : scl M.length (.ref r :: rest) := fun w hw => h4 w (List.mem_of_mem_drop (hst ▸ hw))
      have hargs : scl M.length (.ref r :: (st.take nargs).reverse) := scl.cons hrest.hd (fun w hw => h4 w (List.mem_of_mem_take (List.mem_reverse.mp hw)))
      have hT := h h3 hargs l D cy ex ad H.size C.2.2.2.2.2.2.2.2.2.2.2.1
      have hMt : Met l d'.1 (wsOf d') (rmOf d' mc ms) (va_Pc ((Value.ref r :: (st.take nargs).reverse).map (xv ad ex)) (TPre D cy ex ad H.size M)) (TRet D cy ex ad M (va_A (xw cy ad ex M) H.size) (rKall (pc + 3) mc ms K Q L rest b)) mc ms (va_A (xw cy ad ex M) H.size) := by
        refine met_of hT ?_ ?_
        · rintro a s9 o t ⟨⟨ad', v, M', q1, q2, q3⟩, hF⟩
          exact ⟨⟨ad', v, M', q1, q2, q3⟩, hF⟩
        · rintro E s9 t ⟨ad', M', q1, q2⟩
          exact q1
      obtain ⟨c1, c2, c3, c4, c5, c6, c7⟩ := cc
      have hr2 : (parseMethodDescriptor d'.1.desc).map (fun d => d.parameters.length) = some nargs := c3
      have hgood : GoodIn WG (wsOf d') := WG_in (by
        intro w hw
        rcases List.mem_cons.mp hw with rfl | hw
        · exact c7
        · exact hw)
      have hstk : st.map (xv ad ex) = (((st.take nargs).reverse).map (xv ad ex)).reverse ++ .ref (ad r) :: rest.map (xv ad ex) := by
        rw [← List.map_reverse, List.reverse_reverse, ← List.take_append_drop nargs st, List.map_append, List.take_append_drop, hst]
        rfl
      have hrun : va_Run p l e R s m args below meth c H locs (R.cells - b.1) (R.slots - b.2) mc ms (F0 m pc ls (st.map (xv ad ex))) (rest.map (xv ad ex)) (TRet D cy ex ad M (va_A (xw cy ad ex M) H.size) (rKall (pc + 3) mc ms K Q L rest b) (Value.ref (ad r) :: ((st.take nargs).reverse).map (xv ad ex)).toArray) (va_A (xw cy ad ex M) H.size) := by
        have hlo : 8 + (d'.2.2.1 + 11) + d'.2.2.2.2.2 ≤ R.locals := by rw [C.2.2.2.2.2.2.2.2.2.1]; exact c5
        have hfr : d'.2.2.2.2.1 + 1 ≤ R.frames := by rw [C.2.2.2.2.2.2.2.2.1]; exact c4
        have hwsO : wsOf d' = Cond.code d'.1 d'.2.1 d'.2.2.1 none :: WG := by unfold wsOf; rw [hret]
        rcases hw1 with hw1 | ⟨host, hw1⟩
        · exact va_runI (b := ad r) (As := ((st.take nargs).reverse).map (xv ad ex)) (rest := rest.map (xv ad ex)) ⟨C.1, C.2.1, C.2.2.1, C.2.2.2.1, C.2.2.2.2.1⟩ hMt (cwI nargs C.2.2.2.2.1 hgood hwsO rfl rfl (C.2.2.2.2.1 _ c6) (C.2.2.2.2.1 _ hw1) (C.2.2.2.2.1 _ hw2) hin ⟨c1, c2, c3⟩ ⟨hfr, hlo⟩) ⟨TPre_blind, fun U hU hW => ⟨rfl, tpre_at C hP hD hS U hU hW⟩⟩ rfl (by rw [List.length_map, List.length_reverse, take_len hst]) hl.1 hstk (lv_room (by rw [cat_map]; exact Nat.le_of_ble_eq_true hcat)) hd ⟨by omega, by omega⟩
        · exact va_runIN (b := ad r) (As := ((st.take nargs).reverse).map (xv ad ex)) (rest := rest.map (xv ad ex)) ⟨C.1, C.2.1, C.2.2.1, C.2.2.2.1, C.2.2.2.2.1⟩ hMt ⟨va_cnB nargs C.2.2.2.2.1 hgood hwsO rfl rfl (C.2.2.2.2.2.2.1.2.2.2.2.2.2.1 _ hw1) (C.2.2.2.2.1 _ c6) ⟨c1, c2, c3⟩ ⟨hfr, hlo⟩, hin, C.2.2.2.2.1 _ hw2⟩ ⟨TPre_blind, fun U hU hW => ⟨rfl, tpre_at C hP hD hS U hU hW⟩⟩ rfl (by rw [List.length_map, List.length_reverse, take_len hst]) hl.1 hstk (lv_room (by rw [cat_map]; exact Nat.le_of_ble_eq_true hcat)) hd ⟨by omega, by omega⟩
      exact run_on C hK rfl hmc hms h1 h2 h3 hrest.tl h5 h6 h7 hP hD hS hl (fun T hT9 X => Or.inl (hrun T hT9 X))
    · exact h.elim
  · exact h.elim
/-! Math, System -/
def o_mmax (n : Nat) : WOp := fun K Q L st M b => match st with
  | [.int y, .int x] => K n L [.int (if x < y then y else x)] M b
  | _ => False
def o_mmin (n : Nat) : WOp := fun K Q L st M b => match st with
  | [.int y, .int x] => K n L [.int (if y < x then y else x)] M b
  | _ => False
def o_mabs (n : Nat) : WOp := fun K Q L st M b => match st with
  | [.int x] => K n L [.int (if 0 ≤ x then x else 0 - x)] M b
  | _ => False
def o_copy (n : Nat) : WOp := fun K Q L st M b => match st with
  | [.int z, .int dp, .ref i1, .int sp, .ref i0] => match M[i0]?, M[i1]? with
    | some (.inl (0, k0, .inl f)), some (.inl (0, k1, .inl g)) => (¬ sp < 0 ∧ ¬ dp < 0 ∧ ¬ z < 0 ∧ sp.toNatClampNeg + z.toNatClampNeg ≤ k0 ∧ dp.toNatClampNeg + z.toNatClampNeg ≤ k1) ∧ K n L [] (M.set i1 (.inl (0, k1, .inl (va_cpy f g sp.toNatClampNeg dp.toNatClampNeg z.toNatClampNeg)))) b
    | _, _ => False
  | _ => False
theorem s_mmax {d : TrD} {G : GX} {pc ix : Nat} (hw1 : Cond.methodLink d.1.cls ix Lib.Math.max.name ∈ WG) (hw2 : Cond.static Lib.Math.max.name ∈ WG) (hw3 : Cond.initialized "java/lang/Math" ∈ WG) (hw4 : Cond.code Lib.Math.max.name Lib.Math.max.code 2 (some .int) ∈ WG) (hf : 1 ≤ d.2.2.2.2.1) (hlo : 13 ≤ d.2.2.2.2.2) (hd : decode d.2.1 pc = .ok (.invokestatic ix, 3)) : Snd d G pc (o_mmax (pc + 3)) := by
  intro p l e R s m args below meth c Z D cy ex A n0 ad0 Q C' g K hK L st M b h ad H locs ls h1 h2 h3 h4 h5 h6 h7 hP hD hS hl
  unfold o_mmax at h
  split at h
  · rename_i y x
    refine va_mmax (rest := []) C'.1 C'.2.1 (C'.2.2.1.trans hl.1.symm) C'.2.2.2.1 (C'.2.2.2.2.1 _ hw1) (C'.2.2.2.2.1 _ hw2) (C'.2.2.2.2.1 _ hw3) (C'.2.2.2.2.1 _ hw4) (by rw [C'.2.2.2.2.2.2.2.2.1]; exact hf) (by rw [C'.2.2.2.2.2.2.2.2.2.1]; exact hlo) (Nat.sub_le _ _) (Nat.sub_le _ _) hd ?_
    exact hK _ _ _ _ _ h ad H locs ls h1 h2 h3 (scl.cons trivial (fun _ q => nomatch q)) h5 h6 h7 hP hD hS hl
  · exact h.elim
theorem s_mmin {d : TrD} {G : GX} {pc ix : Nat} (hw1 : Cond.methodLink d.1.cls ix Lib.Math.min.name ∈ WG) (hw2 : Cond.static Lib.Math.min.name ∈ WG) (hw3 : Cond.initialized "java/lang/Math" ∈ WG) (hw4 : Cond.code Lib.Math.min.name Lib.Math.min.code 2 (some .int) ∈ WG) (hf : 1 ≤ d.2.2.2.2.1) (hlo : 13 ≤ d.2.2.2.2.2) (hd : decode d.2.1 pc = .ok (.invokestatic ix, 3)) : Snd d G pc (o_mmin (pc + 3)) := by
  intro p l e R s m args below meth c Z D cy ex A n0 ad0 Q C' g K hK L st M b h ad H locs ls h1 h2 h3 h4 h5 h6 h7 hP hD hS hl
  unfold o_mmin at h
  split at h
  · rename_i y x
    refine va_mmin (rest := []) C'.1 C'.2.1 (C'.2.2.1.trans hl.1.symm) C'.2.2.2.1 (C'.2.2.2.2.1 _ hw1) (C'.2.2.2.2.1 _ hw2) (C'.2.2.2.2.1 _ hw3) (C'.2.2.2.2.1 _ hw4) (by rw [C'.2.2.2.2.2.2.2.2.1]; exact hf) (by rw [C'.2.2.2.2.2.2.2.2.2.1]; exact hlo) (Nat.sub_le _ _) (Nat.sub_le _ _) hd ?_
    exact hK _ _ _ _ _ h ad H locs ls h1 h2 h3 (scl.cons trivial (fun _ q => nomatch q)) h5 h6 h7 hP hD hS hl
  · exact h.elim
theorem s_mabs {d : TrD} {G : GX} {pc ix : Nat} (hw1 : Cond.methodLink d.1.cls ix Lib.Math.abs.name ∈ WG) (hw2 : Cond.static Lib.Math.abs.name ∈ WG) (hw3 : Cond.initialized "java/lang/Math" ∈ WG) (hw4 : Cond.code Lib.Math.abs.name Lib.Math.abs.code 1 (some .int) ∈ WG) (hf : 1 ≤ d.2.2.2.2.1) (hlo : 13 ≤ d.2.2.2.2.2) (hd : decode d.2.1 pc = .ok (.invokestatic ix, 3)) : Snd d G pc (o_mabs (pc + 3)) := by
  intro p l e R s m args below meth c Z D cy ex A n0 ad0 Q C' g K hK L st M b h ad H locs ls h1 h2 h3 h4 h5 h6 h7 hP hD hS hl
  unfold o_mabs at h
  split at h
  · rename_i x
    refine va_mabs (rest := []) C'.1 C'.2.1 (C'.2.2.1.trans hl.1.symm) C'.2.2.2.1 (C'.2.2.2.2.1 _ hw1) (C'.2.2.2.2.1 _ hw2) (C'.2.2.2.2.1 _ hw3) (C'.2.2.2.2.1 _ hw4) (by rw [C'.2.2.2.2.2.2.2.2.1]; exact hf) (by rw [C'.2.2.2.2.2.2.2.2.2.1]; exact hlo) (Nat.sub_le _ _) (Nat.sub_le _ _) hd ?_
    exact hK _ _ _ _ _ h ad H locs ls h1 h2 h3 (scl.cons trivial (fun _ q => nomatch q)) h5 h6 h7 hP hD hS hl
  · exact h.elim
theorem s_copy {d : TrD} {G : GX} {pc ix : Nat} (hw1 : Cond.methodLink d.1.cls ix arraycopyName ∈ WG) (hw2 : Cond.native arraycopyName ∈ WG) (hw3 : Cond.static arraycopyName ∈ WG) (hw4 : Cond.initialized "java/lang/System" ∈ WG) (hf : 1 ≤ d.2.2.2.2.1) (hlo : nativeFrameWords "java/lang/System" "arraycopy" 5 + 11 ≤ d.2.2.2.2.2) (hd : decode d.2.1 pc = .ok (.invokestatic ix, 3)) : Snd d G pc (o_copy (pc + 3)) := by
  intro p l e R s m args below meth c Z D cy ex A n0 ad0 Q C' g K hK L st M b h ad H locs ls h1 h2 h3 h4 h5 h6 h7 hP hD hS hl
  unfold o_copy at h
  split at h
  · rename_i z dp i1 sp i0
    split at h
    · rename_i k0 f k1 g2 hM0 hM1
      obtain ⟨⟨q1, q2, q3, q4, q5⟩, h⟩ := h
      have hq0 := xw_at (cy := cy) (ad := ad) (ex := ex) hM0
      have hq1 := xw_at (cy := cy) (ad := ad) (ex := ex) hM1
      refine va_copyi (rest := []) (ty := .int) C'.1 C'.2.1 (C'.2.2.1.trans hl.1.symm) C'.2.2.2.1 (C'.2.2.2.2.1 _ hw1) (C'.2.2.2.2.1 _ hw2) (C'.2.2.2.2.1 _ hw3) (C'.2.2.2.2.1 _ hw4) C'.2.2.2.2.2.1 hP hD hS i0 i1 0 0 hq0 hq1 rfl rfl rfl q1 q2 q3 q4 q5 (fun _ _ => rfl) (by rw [C'.2.2.2.2.2.2.2.2.1]; exact hf) (by rw [C'.2.2.2.2.2.2.2.2.2.1]; show 0 + _ ≤ _; omega) hd (fun H1 locs1 hP1 hD1 hS1 => ?_)
      exact XX_set (st := []) (o := .inl (0, k1, .inl (va_cpy f g2 sp.toNatClampNeg dp.toNatClampNeg z.toNatClampNeg))) (hK _ _ _ _ _ h) h1 h2 h3 trivial (fun _ q => nomatch q) h5 h6 h7 hP1 hD1 hS1 hl
    · exact h.elim
  · exact h.elim
/-- a switch over a row of places -/
def swK (K : Nat → Prop) (x : Int32) (df : Nat) : Int32 → List Nat → Prop
  | _, [] => K df
  | v, t :: ts => (x = v → K t) ∧ (¬ x = v → swK K x df (v + 1) ts)
def o_tsw (lo : Int32) (ts : List Nat) (df : Nat) : WOp := fun K Q L st M b => match st with
  | .int x :: st1 => swK (fun t => K t L st1 M b) x df lo ts
  | _ => False
theorem swK_in {K : Nat → Prop} {x : Int32} {df : Nat} : ∀ (ts : List Nat) (lo : Int32) (k t : Nat), swK K x df lo ts → ts[k]? = some t → (∀ j, j < k → ¬ x = lo + Int32.ofNat j) → x = lo + Int32.ofNat k → K t
  | t0 :: ts, lo, 0, t, h, hk, _, hx => by
    cases hk
    exact h.1 (by rw [hx, show Int32.ofNat 0 = 0 from rfl, Int32.add_zero])
  | t0 :: ts, lo, k + 1, t, h, hk, hj, hx => by
    have h2 := h.2 (fun q => hj 0 (Nat.succ_pos k) (by rw [q, show Int32.ofNat 0 = 0 from rfl, Int32.add_zero]))
    have e : ∀ j : Nat, lo + 1 + Int32.ofNat j = lo + Int32.ofNat (j + 1) := fun j => by
      rw [Int32.add_assoc]
      congr 1
      show (1 : Int32) + nI j = nI (j + 1)
      rw [nI_succ, Int32.add_comm]
    exact swK_in ts (lo + 1) k t h2 hk (fun j hj2 => by rw [e]; exact hj (j + 1) (Nat.succ_lt_succ hj2)) (by rw [e]; exact hx)
  | [], _, k, t, _, hk, _, _ => by simp at hk
theorem swK_out {K : Nat → Prop} {x : Int32} {df : Nat} : ∀ (ts : List Nat) (lo : Int32), swK K x df lo ts → (∀ j, j < ts.length → ¬ x = lo + Int32.ofNat j) → K df
  | [], _, h, _ => h
  | t0 :: ts, lo, h, hj => by
    have h2 := h.2 (fun q => hj 0 (Nat.succ_pos _) (by rw [q, show Int32.ofNat 0 = 0 from rfl, Int32.add_zero]))
    have e : ∀ j : Nat, lo + 1 + Int32.ofNat j = lo + Int32.ofNat (j + 1) := fun j => by
      rw [Int32.add_assoc]
      congr 1
      show (1 : Int32) + nI j = nI (j + 1)
      rw [nI_succ, Int32.add_comm]
    exact swK_out ts (lo + 1) h2 (fun j hj2 => by rw [e]; exact hj (j + 1) (Nat.succ_lt_succ hj2))
theorem s_tsw {d : TrD} {G : GX} {pc df len : Nat} {dflt9 lo hi : Int} {offs : Array Int} {lo9 : Int32} {ts : List Nat} (hd : decode d.2.1 pc = .ok (.tableswitch dflt9 lo hi offs, len)) (hlo : lo9.toInt = lo) (hb : -1000 ≤ lo ∧ lo ≤ 1000) (hsz : (ts.length : Int) = hi - lo + 1) (hsm : ts.length ≤ 1000) (hts : ∀ k t : Nat, ts[k]? = some t → ∃ off, offs[k]? = some off ∧ (pc : Int) + off = (t : Int)) (hdf : (pc : Int) + dflt9 = (df : Int)) : Snd d G pc (o_tsw lo9 ts df) := by
  intro p l e R s m args below meth c Z D cy ex A n0 ad0 Q C' g K hK L st M b h ad H locs ls h1 h2 h3 h4 h5 h6 h7 hP hD hS hl
  unfold o_tsw at h
  split at h
  · rename_i x st1
    have val : ∀ j : Nat, j < ts.length → (lo9 + Int32.ofNat j).toInt = lo + j := by
      intro j hj
      have hj2 : (Int32.ofNat j).toInt = (j : Int) := nI_toInt (n := j) (by omega)
      rw [Int32.toInt_add, hlo, hj2]
      have : (lo + (j : Int)).bmod (2 ^ 32) = lo + j := by
        rw [Int.bmod_eq_of_le] <;> omega
      exact this
    by_cases hc : x.toInt < lo ∨ hi < x.toInt
    · refine lv_tableOut (tgt := df) C'.1 C'.2.1 hd hc hdf ?_
      have hk := swK_out ts lo9 h (fun j hj q => by
        have := val j hj
        rw [← q] at this
        omega)
      exact hK _ _ _ _ _ hk ad H locs ls h1 h2 h3 h4.tl h5 h6 h7 hP hD hS hl
    · have c1 : ¬ x.toInt < lo := fun q => hc (Or.inl q)
      have c2 : ¬ hi < x.toInt := fun q => hc (Or.inr q)
      obtain ⟨k, hk⟩ : ∃ k : Nat, x.toInt = lo + k := ⟨(x.toInt - lo).toNat, by omega⟩
      have hkl : k < ts.length := by omega
      obtain ⟨off, ho, htg⟩ := hts k _ (List.getElem?_eq_getElem hkl)
      refine lv_tableIn (tgt := ts[k]) (off := off) C'.1 C'.2.1 hd c1 c2 (by rw [show (x.toInt - lo).toNat = k by omega]; exact ho) htg ?_
      have ex9 : x = lo9 + Int32.ofNat k := Int32.toInt_inj.mp (by rw [val k hkl]; exact hk)
      have hK9 := swK_in ts lo9 k _ h (List.getElem?_eq_getElem hkl) (fun j hj q => by
        have a1 := val j (by omega)
        rw [← q] at a1
        omega) ex9
      exact hK _ _ _ _ _ hK9 ad H locs ls h1 h2 h3 h4.tl h5 h6 h7 hP hD hS hl
  · exact h.elim
end
section
/-! ===== calls on things from before; some rarer instructions ===== -/
def o_ishr (n : Nat) : WOp := fun K Q L st M b => match st with
  | .int y :: .int x :: st1 => K n L (.int (x >>> (y &&& 31)) :: st1) M b
  | _ => False
theorem s_o_ishr {d : TrD} {G : GX} {pc : Nat} (hd : decode d.2.1 pc = .ok (.ishr, 1)) : Snd d G pc (o_ishr (pc + 1)) := by
  intro p l e R s m args below meth c Z D cy ex A n0 ad0 Q C g K hK L st M b h ad H locs ls h1 h2 h3 h4 h5 h6 h7 hP hD hS hl
  unfold o_ishr at h
  split at h
  · refine lv_ishr C.1 C.2.1 hd ?_
    exact hK _ _ _ _ _ h ad H locs ls h1 h2 h3 (scl.cons trivial h4.tl.tl) h5 h6 h7 hP hD hS hl
  · exact h.elim
def o_i2c (n : Nat) : WOp := fun K Q L st M b => match st with
  | .int x :: st1 => K n L (.int (x.toUInt32 % 65536).toInt32 :: st1) M b
  | _ => False
theorem s_o_i2c {d : TrD} {G : GX} {pc : Nat} (hd : decode d.2.1 pc = .ok (.i2c, 1)) : Snd d G pc (o_i2c (pc + 1)) := by
  intro p l e R s m args below meth c Z D cy ex A n0 ad0 Q C g K hK L st M b h ad H locs ls h1 h2 h3 h4 h5 h6 h7 hP hD hS hl
  unfold o_i2c at h
  split at h
  · refine lv_i2c C.1 C.2.1 hd rfl ?_
    exact hK _ _ _ _ _ h ad H locs ls h1 h2 h3 (scl.cons trivial h4.tl) h5 h6 h7 hP hD hS hl
  · exact h.elim
/-- null or some reference, nobody looks -/
def o_gets2 (n : Nat) : WOp := fun K Q L st M b => K n L (.null :: st) M b ∧ K n L (.float 22 :: st) M b
theorem s_gets2 {d : TrD} {G : GX} {pc ix : Nat} (hd : decode d.2.1 pc = .ok (.getstatic ix, 3)) (hw : Cond.fieldLink d.1.cls ix "jdk/internal/util/Preconditions" "SIOOBE_FORMATTER" "Ljava/util/function/BiFunction;" ∈ WG) : Snd d G pc (o_gets2 (pc + 3)) := by
  intro p l e R s m args below meth c Z D cy ex A n0 ad0 Q C' g K hK L st M b h ad H locs ls h1 h2 h3 h4 h5 h6 h7 hP hD hS hl
  rcases C'.2.2.2.2.2.2.1.2.2.2.2.2.2.2.2.2.2.2.2 with hz | hz
  · refine va_gets C'.1 C'.2.1 hz hS C'.2.2.2.1 (C'.2.2.2.2.1 _ hw) (fun _ q => q) hd ?_
    exact hK _ _ _ _ _ h.1 ad H locs ls h1 h2 h3 (scl.cons trivial h4) h5 h6 h7 hP hD hS hl
  · refine va_gets C'.1 C'.2.1 hz hS C'.2.2.2.1 (C'.2.2.2.2.1 _ hw) (fun _ q => q) hd ?_
    exact hK _ _ _ _ _ h.2 ad H locs ls h1 h2 h3 (scl.cons trivial h4) h5 h6 h7 hP hD hS hl
theorem recvE {ex : Nat → Nat} {A : Nat → Prop} {s : State} {H : Heap} {locs : List Loc} {k : Nat} {cls : String} (hE : XE ex A s s.heap) (hk : (k, cls) ∈ EO) (hS : va_S A s.heap H locs) : ∃ cell : Cell, H[ex k]? = some cell ∧ cell.vm.isStatics = false ∧ s.vm.findClass cls = some cell.cls := by
  obtain ⟨cell, h1, h2, h3, -⟩ := (hE.2.2.1 _ hk).kept hS.2.1
  exact ⟨cell, h1, h2, h3⟩
def o_callXV (n lo hi nargs : Nat) (d' : TrD) : WOp := fun K Q L st M b => match st.drop nargs with
  | .float u :: rest => match Nat.ble lo u.toNat, Nat.ble (u.toNat + 1) hi, Nat.ble ((rest.map Value.category).sum) 8 with
    | true, true, true => Tr d' 0 0 (.float u :: (st.take nargs).reverse) M (rKall n 0 0 K Q L rest b)
    | _, _, _ => False
  | _ => False
theorem s_callXV {d d' : TrD} {G : GX} {pc ix lo hi nargs : Nat} (hEO : ∀ k, lo ≤ k → k < hi → (k, d'.1.cls) ∈ EO) (cc : CallC d d' nargs) (hw1 : Cond.methodLink d.1.cls ix d'.1 ∈ WG) (hw2 : Cond.instanceMethod d'.1 ∈ WG) (hw3 : Cond.selects d'.1.cls d'.1 d'.1 ∈ WG) (hd : decode d.2.1 pc = .ok (.invokevirtual ix, 3)) : Snd d G pc (o_callXV (pc + 3) lo hi nargs d') := by
  intro p l e R s m args below meth c Z D cy ex A n0 ad0 Q C g K hK L st M b h ad H locs ls h1 h2 h3 h4 h5 h6 h7 hP hD hS hl
  unfold o_callXV at h
  split at h
  · rename_i u rest hst
    split at h
    · rename_i hlo hhi hcat
      have hlo := Nat.le_of_ble_eq_true hlo
      have hhi := Nat.le_of_ble_eq_true hhi
      have hrest : scl M.length (.float u :: rest) := fun w hw => h4 w (List.mem_of_mem_drop (hst ▸ hw))
      have hargs : scl M.length (.float u :: (st.take nargs).reverse) := scl.cons hrest.hd (fun w hw => h4 w (List.mem_of_mem_take (List.mem_reverse.mp hw)))
      have hT := h h3 hargs l D cy ex ad H.size C.2.2.2.2.2.2.2.2.2.2.2.1
      obtain ⟨c1, c2, c3, c4, c5, c6, c7⟩ := cc
      have hgood : GoodIn WG (wsV d.1.cls ix d'.1.cls d'.1 (wsOf d')) := WG_in (by
        intro w hw
        simp only [wsV, wsOf, List.cons_append, List.nil_append, List.mem_cons] at hw
        rcases hw with rfl | rfl | rfl | rfl | rfl | hw
        · exact hw1
        · exact hw2
        · exact hw3
        · exact c6
        · exact c7
        · exact hw)
      have hr := vx_runV (e := e) (below := below) (meth := meth) (b := ex u.toNat) (As := ((st.take nargs).reverse).map (xv ad ex)) (rest := rest.map (xv ad ex)) (locs := locs) (cells := R.cells - b.1) (slots := R.slots - b.2) (g := F0 m pc ls (st.map (xv ad ex))) ⟨C.1, C.2.1, C.2.2.1, C.2.2.2.1, C.2.2.2.2.1⟩ hT (cwV nargs C.2.2.2.2.1 hgood rfl rfl rfl ⟨rfl, c1, c2, c3⟩ ⟨by rw [C.2.2.2.2.2.2.2.2.1]; exact c4, by rw [C.2.2.2.2.2.2.2.2.2.1]; exact c5⟩) ⟨TPre_blind, recvE C.2.2.2.2.2.2.1 (hEO _ hlo hhi) hS, fun U hU hW => ⟨rfl, tpre_at C hP hD hS U hU hW⟩⟩ rfl (by rw [List.length_map, List.length_reverse, take_len hst]) hl.1 (by
          show st.map (xv ad ex) = _
          rw [← List.map_reverse, List.reverse_reverse, ← List.take_append_drop nargs st, List.map_append, List.take_append_drop, hst]
          rfl) (lv_room (by rw [cat_map]; exact Nat.le_of_ble_eq_true hcat)) hd ⟨by omega, by omega⟩
      exact run_on C hK rfl (Nat.zero_le _) (Nat.zero_le _) h1 h2 h3 hrest.tl h5 h6 h7 hP hD hS hl hr
    · exact h.elim
  · exact h.elim
/-- Word.ordinal(), which Enum declares -/
def o_callXU (n : Nat) (d' : TrD) : WOp := fun K Q L st M b => match st with
  | .float u :: rest => match Nat.ble (u.toNat + 1) 6, Nat.ble ((rest.map Value.category).sum) 8 with
    | true, true => Tr d' 0 0 [.float u] M (rKi n 0 0 K L rest b)
    | _, _ => False
  | _ => False
theorem s_callXU {d d' : TrD} {G : GX} {pc ix : Nat} {x : MethodName} (hEO : ∀ k, k < 6 → (k, "PlateArm$Word") ∈ EO) (cc : CallC d d' 0) (hyx : d'.1 = ⟨"java/lang/Enum", x.name, x.desc⟩) (hxd : (parseMethodDescriptor x.desc).map (fun d => d.parameters.length) = some 0) (hw1 : Cond.methodLink d.1.cls ix x ∈ WG) (hw4 : Cond.sameMethod x.cls "java/lang/Enum" x.name x.desc ∈ WG) (hw3 : Cond.selects "PlateArm$Word" x d'.1 ∈ WG) (hw2 : Cond.instanceMethod d'.1 ∈ WG) (hd : decode d.2.1 pc = .ok (.invokevirtual ix, 3)) : Snd d G pc (o_callXU (pc + 3) d') := by
  intro p l e R s m args below meth c Z D cy ex A n0 ad0 Q C g K hK L st M b h ad H locs ls h1 h2 h3 h4 h5 h6 h7 hP hD hS hl
  unfold o_callXU at h
  split at h
  · rename_i u rest
    split at h
    · rename_i hhi hcat
      have hhi := Nat.le_of_ble_eq_true hhi
      have hT := h h3 (scl.cons h4.hd (fun _ q => nomatch q)) l D cy ex ad H.size C.2.2.2.2.2.2.2.2.2.2.2.1
      have hMt : Met l d'.1 (wsOf d') (rmOf d' 0 0) (va_Pc ([Value.float u].map (xv ad ex)) (TPre D cy ex ad H.size M)) (TRet D cy ex ad M (va_A (xw cy ad ex M) H.size) (rKall (pc + 3) 0 0 K Q L rest b)) 0 0 (va_A (xw cy ad ex M) H.size) := by
        refine met_of hT ?_ ?_
        · rintro a s9 o t ⟨⟨ad', v, M', q1, q2, q3⟩, hF⟩
          exact ⟨⟨ad', v, M', q1, q2, q3⟩, hF⟩
        · rintro E s9 t ⟨ad', M', q1, q2⟩
          exact q1
      obtain ⟨c1, c2, c3, c4, c5, c6, c7⟩ := cc
      have hgood : GoodIn WG (va_wsU d.1.cls ix "PlateArm$Word" "java/lang/Enum" x d'.1 (wsOf d')) := WG_in (by
        intro w hw
        simp only [va_wsU, wsOf, List.cons_append, List.nil_append, List.mem_cons] at hw
        rcases hw with rfl | rfl | rfl | rfl | rfl | rfl | hw
        · exact hw1
        · exact hw4
        · exact hw3
        · exact hw2
        · exact c6
        · exact c7
        · exact hw)
      have hrun : va_Run p l e R s m args below meth c H locs (R.cells - b.1) (R.slots - b.2) 0 0 (F0 m pc ls ((.float u :: rest).map (xv ad ex))) (rest.map (xv ad ex)) (TRet D cy ex ad M (va_A (xw cy ad ex M) H.size) (rKall (pc + 3) 0 0 K Q L rest b) (Value.ref (ex u.toNat) :: []).toArray) (va_A (xw cy ad ex M) H.size) :=
        va_runU (b := ex u.toNat) (As := []) (rest := rest.map (xv ad ex)) ⟨C.1, C.2.1, C.2.2.1, C.2.2.2.1, C.2.2.2.2.1⟩ hMt (va_cwU 0 C.2.2.2.2.1 hgood rfl rfl rfl hyx ⟨by decide, by decide, hxd⟩ ⟨by rw [C.2.2.2.2.2.2.2.2.1]; exact c4, by rw [C.2.2.2.2.2.2.2.2.2.1]; exact c5⟩) ⟨TPre_blind, recvE C.2.2.2.2.2.2.1 (hEO _ hhi) hS, fun U hU hW => ⟨rfl, tpre_at C hP hD hS U hU hW⟩⟩ rfl rfl hl.1 rfl (lv_room (by rw [cat_map]; exact Nat.le_of_ble_eq_true hcat)) hd ⟨by omega, by omega⟩
      exact run_on C hK rfl (Nat.zero_le _) (Nat.zero_le _) h1 h2 h3 h4.tl h5 h6 h7 hP hD hS hl (fun T hT9 X => Or.inl (hrun T hT9 X))
    · exact h.elim
  · exact h.elim
/-- new int[4][6] -/
def mnaRows (n N K : Nat) : AM := .inl (4, N, .inr (.inr (.inr (.inr (fun i => if i < N then some (n + 1 + i) else none))))) :: List.replicate N (.inl (0, K, .inl (fun _ => 0)))
def o_mna (n N K : Nat) : WOp := fun KK Q L st M b => match st, Nat.ble (1 + N) b.1, Nat.ble (N + N * K) b.2 with
  | .int z :: .int y :: st1, true, true => (z = Int32.ofNat K ∧ y = Int32.ofNat N) ∧ KK n L (.ref M.length :: st1) (M ++ mnaRows M.length N K) (b.1 - (1 + N), b.2 - (N + N * K))
  | _, _, _ => False
theorem va_plx {L : List Nat} {f : Nat → va_E} {k : Nat} {q : Nat × va_E} : (va_pl L f)[k]? = some q ↔ ∃ a, L[k]? = some a ∧ q = (a, f a) := by
  unfold va_pl
  rw [List.getElem?_map]
  cases L[k]? with
  | none => simp
  | some a => simp [eq_comm]
theorem xw_app {cy ad ex : Nat → Nat} {M M2 : AM} : xw cy ad ex (M ++ M2) = xw cy ad ex M ++ M2.mapIdx (fun i o => (ad (i + M.length), xo cy ad ex o)) := by
  unfold xw
  rw [List.mapIdx_append]
theorem s_mna {d : TrD} {G : GX} {pc ix N K : Nat} (hN : N < 1000) (hKk : K < 1000) (hw1 : Cond.classLink d.1.cls ix "[[I" ∈ WG) (hw2 : Cond.arrayClass .int ∈ WG) (hd : decode d.2.1 pc = .ok (.multianewarray ix 2, 4)) : Snd d G pc (o_mna (pc + 4) N K) := by
  intro p l e R s m args below meth c Z D cy ex A n0 ad0 Q C' g KK hK' L st M b h ad H locs ls h1 h2 h3 h4 h5 h6 h7 hP hD hS hl
  unfold o_mna at h
  split at h
  · rename_i z y st1 hb1 hb2
    have hb1 := Nat.le_of_ble_eq_true hb1
    have hb2 := Nat.le_of_ble_eq_true hb2
    obtain ⟨⟨hz, hy⟩, h⟩ := h
    have hz0 : ¬ z < 0 := by rw [hz]; exact nI_pos (n := K) (by omega)
    have hzN : z.toNatClampNeg = K := by rw [hz]; exact nI_clamp (n := K) (by omega)
    have hy0 : ¬ y < 0 := by rw [hy]; exact nI_pos (n := N) (by omega)
    have hyN : y.toNatClampNeg = N := by rw [hy]; exact nI_clamp (n := N) (by omega)
    have hsl : N * K ≤ 1000000 := Nat.mul_le_mul (Nat.le_of_lt hN) (Nat.le_of_lt hKk)
    have hPx : va_P D vwCl (xw cy ad ex M ++ va_pl [] (fun _ => .inr (0, []))) H := by rw [show va_pl [] (fun _ => (Sum.inr (0, []) : va_E)) = [] from rfl, List.append_nil]; exact hP
    have hDx : va_D A (xw cy ad ex M ++ va_pl [] (fun _ => .inr (0, []))) := by rw [show va_pl [] (fun _ => (Sum.inr (0, []) : va_E)) = [] from rfl, List.append_nil]; exact hD
    refine va_mna (ty := .int) (cy := cy 0) (N' := N) (K' := K) (z := (K, .inl (fun _ => 0))) C'.1 C'.2.1 C'.2.2.2.1 (C'.2.2.2.2.1 _ hw1) C'.2.2.2.2.2.2.1.2.2.2.2.2.2.2.2.2.2.1 (C'.2.2.2.2.1 _ hw2) ((C'.2.2.2.2.2.1.2 0 (cy 0, .int) rfl).2) C'.2.2.2.2.2.1 hPx hDx hS C'.2.2.2.2.2.2.2.1 hy0 hz0 hyN hzN (by omega) (by show K * 4 ≤ _; omega) (by omega) rfl rfl (by omega) (by omega) (fun c => arrV_new c K _) hd (fun q r cA H1 hinj hout hK1 hP1 hD1 hS1 => ?_)
    have hcA : cA = cy 4 := Option.some.inj ((hK1.2 5 (cA, .array .int) rfl).2.symm.trans (C'.2.2.2.2.2.1.2 4 (cy 4, .array .int) rfl).2)
    subst hcA
    obtain ⟨ad', hda⟩ : ∃ w : Nat → Nat, w = fun j => if j < M.length then ad j else if j = M.length then q else r (j - (M.length + 1)) := ⟨_, rfl⟩
    have hag : Agr M.length ad ad' := fun k hk => by rw [hda]; exact if_pos hk
    have hq : ad' M.length = q := by rw [hda]; show (if _ then _ else _) = _; rw [if_neg (Nat.lt_irrefl _), if_pos rfl]
    have hr : ∀ i, ad' (M.length + 1 + i) = r i := fun i => by
      rw [hda]
      show (if _ then _ else if _ then _ else _) = _
      rw [if_neg (by omega), if_neg (by omega), show M.length + 1 + i - (M.length + 1) = i by omega]
    have ec : xc ad' (.inr (.inr (.inr (.inr (fun i => if i < N then some (M.length + 1 + i) else none))))) = .inr (.inr (.inr (.inr (fun i => if i < N then some (r i) else none)))) := by
      show (Sum.inr (Sum.inr (Sum.inr (Sum.inr _))) : XCn) = Sum.inr (Sum.inr (Sum.inr (Sum.inr _)))
      congr 4
      funext i
      by_cases hi : i < N
      · simp only [if_pos hi, Option.map_some, hr]
      · simp only [if_neg hi, Option.map_none]
    have eb : va_pl ([] ++ (List.range N).map r) (vr_up (fun _ => .inr (0, [])) ((List.range N).map r) (.inl (cy 0, (K, .inl (fun _ => 0))))) = (List.replicate N (.inl (0, K, .inl (fun _ => 0)) : AO)).mapIdx (fun i o => (ad' (M.length + 1 + i), xo cy ad' ex o)) := by
      apply List.ext_getElem?
      intro i
      rw [List.nil_append, List.getElem?_mapIdx, List.getElem?_replicate]
      unfold va_pl
      rw [List.map_map, List.getElem?_map]
      by_cases hi : i < N
      · rw [List.getElem?_range hi, if_pos hi]
        show some (r i, vr_up _ _ _ (r i)) = some (ad' (M.length + 1 + i), _)
        rw [hr, vr_up_in (List.mem_map.mpr ⟨i, List.mem_range.mpr hi, rfl⟩)]
        rfl
      · rw [if_neg hi, List.getElem?_eq_none (by rw [List.length_range]; omega)]
        rfl
    have ew : (xw cy ad ex M ++ [(q, .inl (cy 4, N, .inr (.inr (.inr (.inr (fun i => if i < N then some (r i) else none))))))]) ++ va_pl ([] ++ (List.range N).map r) (vr_up (fun _ => .inr (0, [])) ((List.range N).map r) (.inl (cy 0, (K, .inl (fun _ => 0))))) = xw cy ad' ex (M ++ mnaRows M.length N K) := by
      rw [xw_app, xw_agr hag h3, List.append_assoc]
      congr 1
      unfold mnaRows
      rw [List.mapIdx_cons, eb]
      show (q, _) :: _ = (ad' (0 + M.length), (Sum.inl (cy 4, N, xc ad' _) : va_E)) :: _
      rw [Nat.zero_add, hq, ec]
      refine congrArg (_ :: ·) ?_
      show List.mapIdx _ _ = List.mapIdx _ _
      refine congrArg (fun F => List.mapIdx F _) ?_
      funext i o
      rw [show i + 1 + M.length = M.length + 1 + i by omega]
    have el : (M ++ mnaRows M.length N K).length = M.length + 1 + N := by
      rw [List.length_append]
      unfold mnaRows
      rw [List.length_cons, List.length_replicate]
      omega
    rw [ew] at hP1 hD1
    have es : (Value.ref q :: st1.map (xv ad ex)) = (Value.ref M.length :: st1).map (xv ad' ex) := by
      rw [List.map_cons, st_agr hag h4.tl.tl]
      show _ = Value.ref (ad' M.length) :: _
      rw [hq]
    have e1 : R.cells - b.1 + 1 + N = R.cells - (b.1 - (1 + N)) := by omega
    have e2 : R.slots - b.2 + N + N * K = R.slots - (b.2 - (N + N * K)) := by omega
    rw [e1, e2, es]
    refine hK' _ _ _ _ _ h ad' H1 locs ls (h1.tr hag h2) (by rw [el]; omega) ?_ (by rw [el]; exact scl.cons (show M.length < _ by omega) (h4.tl.tl.mono (by omega))) (by rw [el]; exact h5.mono (by omega)) (Nat.le_trans (Nat.sub_le _ _) h6) (Nat.le_trans (Nat.sub_le _ _) h7) hP1 hD1 hS1 (xl_agr hag h5 hl)
    intro o ho
    rw [el]
    rcases List.mem_append.mp ho with ho | ho
    · exact (h3 o ho).mono (by omega)
    · unfold mnaRows at ho
      rcases List.mem_cons.mp ho with rfl | ho
      · intro j k hk
        dsimp only at hk
        split at hk
        · cases hk; omega
        · cases hk
      · rw [(List.mem_replicate.mp ho).2]; exact trivial
  · exact h.elim
end
section
/-! the classes, and the data of the methods -/
abbrev G1 : GX := fun _ _ _ => True
theorem ok_0 : ClOk 0 RX1 TX1 5 tyX1 := ⟨rfl, fun w hw => List.mem_filter.mpr ⟨inw_0 w hw, by revert w; decide +kernel⟩, tyX1_ok, nmX1⟩
theorem ok_1 : ClOk 1 RX2 TX2 6 tyX2 := ⟨rfl, fun w hw => List.mem_filter.mpr ⟨inw_1 w hw, by revert w; decide +kernel⟩, tyX2_ok, nmX2⟩
theorem ok_2 : ClOk 2 RX3 TX3 2 tyX3 := ⟨rfl, fun w hw => List.mem_filter.mpr ⟨inw_2 w hw, by revert w; decide +kernel⟩, tyX3_ok, nmX3⟩
theorem ok_3 : ClOk 3 RX4 TX4 2 tyX4 := ⟨rfl, fun w hw => List.mem_filter.mpr ⟨inw_3 w hw, by revert w; decide +kernel⟩, tyX4_ok, nmX4⟩
theorem ok_4 : ClOk 4 RX5 TX5 7 tyX5 := ⟨rfl, fun w hw => List.mem_filter.mpr ⟨inw_4 w hw, by revert w; decide +kernel⟩, tyX5_ok, nmX5⟩
theorem ok_5 : ClOk 5 RX6 TX6 8 tyX6 := ⟨rfl, fun w hw => List.mem_filter.mpr ⟨inw_5 w hw, by revert w; decide +kernel⟩, tyX6_ok, nmX6⟩
theorem ok_6 : ClOk 6 RX7 TX7 7 tyX7 := ⟨rfl, fun w hw => List.mem_filter.mpr ⟨inw_6 w hw, by revert w; decide +kernel⟩, tyX7_ok, nmX7⟩
theorem ok_7 : ClOk 7 RX9 TX9 7 tyX9 := ⟨rfl, fun w hw => List.mem_filter.mpr ⟨inw_7 w hw, by revert w; decide +kernel⟩, tyX9_ok, nmX9⟩
theorem ok_8 : ClOk 8 RX10 TX10 14 tyX10 := ⟨rfl, fun w hw => List.mem_filter.mpr ⟨inw_8 w hw, by revert w; decide +kernel⟩, tyX10_ok, nmX10⟩
def tX1_init : TrD := (yX1_init, cX1_init, 1, none, 1, 12)
def tX1_opposite : TrD := (yX1_opposite, cX1_opposite, 1, some .int, 0, 0)
def tX1_reset : TrD := (yX1_reset, cX1_reset, 1, none, 0, 0)
def tX1_copyFrom : TrD := (yX1_copyFrom, cX1_copyFrom, 2, none, 0, 0)
def tX1_liesFarther : TrD := (yX1_liesFarther, cX1_liesFarther, 2, some .boolean, 0, 0)
def tX1_step : TrD := (yX1_step, cX1_step, 1, none, 0, 0)
def tX1_cool : TrD := (yX1_cool, cX1_cool, 2, none, 0, 0)
def tX2_init : TrD := (yX2_init, cX2_init, 1, none, 1, 12)
def tX2_begin : TrD := (yX2_begin, cX2_begin, 1, none, 0, 0)
def tX2_faultOf : TrD := (yX2_faultOf, cX2_faultOf, 4, some .int, 8, 178)
def tX2_take : TrD := (yX2_take, cX2_take, 4, some .int, 7, 155)
def tX2_takeInFront : TrD := (yX2_takeInFront, cX2_takeInFront, 3, some .int, 1, 20)
def tX2_takeInWord : TrD := (yX2_takeInWord, cX2_takeInWord, 4, some .int, 6, 132)
def tX2_takeInGap : TrD := (yX2_takeInGap, cX2_takeInGap, 3, some .int, 1, 22)
def tX2_takeInNumber : TrD := (yX2_takeInNumber, cX2_takeInNumber, 3, some .int, 1, 22)
def tX2_takeBehindNumber : TrD := (yX2_takeBehindNumber, cX2_takeBehindNumber, 3, some .int, 0, 0)
def tX2_wordIn : TrD := (yX2_wordIn, cX2_wordIn, 4, some (.object "PlateArm$Word"), 5, 109)
def tX2_isLetter : TrD := (yX2_isLetter, cX2_isLetter, 1, some .boolean, 0, 0)
def tX2_isDigit : TrD := (yX2_isDigit, cX2_isDigit, 1, some .boolean, 0, 0)
def tX3_init : TrD := (yX3_init, cX3_init, 1, none, 1, 12)
def tX3_isFull : TrD := (yX3_isFull, cX3_isFull, 1, some .boolean, 0, 0)
def tX3_append : TrD := (yX3_append, cX3_append, 2, some .int, 1, 20)
def tX3_byteAt : TrD := (yX3_byteAt, cX3_byteAt, 2, some .int, 0, 0)
def tX3_holds : TrD := (yX3_holds, cX3_holds, 5, some .boolean, 4, 85)
def tX4_init : TrD := (yX4_init, cX4_init, 1, none, 1, 12)
def tX4_reset : TrD := (yX4_reset, cX4_reset, 1, none, 0, 0)
def tX4_copyFrom : TrD := (yX4_copyFrom, cX4_copyFrom, 2, none, 1, 60)
def tX4_kept : TrD := (yX4_kept, cX4_kept, 1, some .int, 1, 13)
def tX4_write : TrD := (yX4_write, cX4_write, 7, none, 0, 0)
def tX4_valueOf : TrD := (yX4_valueOf, cX4_valueOf, 3, some .int, 0, 0)
def tX5_init : TrD := (yX5_init, cX5_init, 1, none, 1, 12)
def tX5_reset : TrD := (yX5_reset, cX5_reset, 1, none, 0, 0)
def tX5_copyFrom : TrD := (yX5_copyFrom, cX5_copyFrom, 2, none, 1, 60)
def tX5_isFull : TrD := (yX5_isFull, cX5_isFull, 1, some .boolean, 0, 0)
def tX5_add : TrD := (yX5_add, cX5_add, 5, some .int, 1, 20)
def tX5_indexOf : TrD := (yX5_indexOf, cX5_indexOf, 3, some .int, 0, 0)
def tX5_move : TrD := (yX5_move, cX5_move, 3, none, 0, 0)
def tX5_removeAt : TrD := (yX5_removeAt, cX5_removeAt, 3, none, 1, 22)
def tX5_spread : TrD := (yX5_spread, cX5_spread, 4, some .int, 1, 13)
def tX6_init : TrD := (yX6_init, cX6_init, 1, none, 2, 32)
def tX6_putIn : TrD := (yX6_putIn, cX6_putIn, 3, none, 1, 20)
def tX6_copyFrom : TrD := (yX6_copyFrom, cX6_copyFrom, 2, none, 2, 81)
def tX6_sectorUnderArm : TrD := (yX6_sectorUnderArm, cX6_sectorUnderArm, 1, some .int, 0, 0)
def tX6_passTicks : TrD := (yX6_passTicks, cX6_passTicks, 3, none, 4, 85)
def tX6_passUntilEmpty : TrD := (yX6_passUntilEmpty, cX6_passUntilEmpty, 2, some .int, 4, 85)
def tX6_tickOfReading : TrD := (yX6_tickOfReading, cX6_tickOfReading, 3, some .int, 4, 85)
def tX6_targetBy : TrD := (yX6_targetBy, cX6_targetBy, 3, some .int, 3, 63)
def tX6_hindranceOf : TrD := (yX6_hindranceOf, cX6_hindranceOf, 3, some .int, 4, 85)
def tX6_beginTick : TrD := (yX6_beginTick, cX6_beginTick, 3, none, 3, 63)
def tX6_endTick : TrD := (yX6_endTick, cX6_endTick, 1, none, 2, 44)
def tX6_lowest : TrD := (yX6_lowest, cX6_lowest, 7, some .int, 2, 37)
def tX6_rankOf : TrD := (yX6_rankOf, cX6_rankOf, 5, some .int, 1, 13)
def tX6_start : TrD := (yX6_start, cX6_start, 2, none, 1, 20)
def tX6_moveOn : TrD := (yX6_moveOn, cX6_moveOn, 2, none, 1, 21)
def tX6_readUnderArm : TrD := (yX6_readUnderArm, cX6_readUnderArm, 5, none, 1, 26)
def tX6_giveUp : TrD := (yX6_giveUp, cX6_giveUp, 3, none, 1, 22)
def tX7_init : TrD := (yX7_init, cX7_init, 1, none, 1, 12)
def tX7_reset : TrD := (yX7_reset, cX7_reset, 1, none, 0, 0)
def tX7_copyFrom : TrD := (yX7_copyFrom, cX7_copyFrom, 2, none, 0, 0)
def tX9_init : TrD := (yX9_init, cX9_init, 2, none, 3, 52)
def tX9_plate : TrD := (yX9_plate, cX9_plate, 4, some .int, 6, 122)
def tX9_request : TrD := (yX9_request, cX9_request, 4, some .int, 6, 122)
def tX9_cancel : TrD := (yX9_cancel, cX9_cancel, 4, some .int, 6, 122)
def tX9_set : TrD := (yX9_set, cX9_set, 4, some .int, 6, 122)
def tX9_pass : TrD := (yX9_pass, cX9_pass, 3, some .int, 6, 122)
def tX9_finish : TrD := (yX9_finish, cX9_finish, 2, some .int, 6, 122)
def tX9_requestOf : TrD := (yX9_requestOf, cX9_requestOf, 4, some .int, 6, 81)
def tX9_requestAt : TrD := (yX9_requestAt, cX9_requestAt, 2, some .int, 6, 81)
def tX9_logged : TrD := (yX9_logged, cX9_logged, 3, some .int, 6, 81)
def tX9_arm : TrD := (yX9_arm, cX9_arm, 2, some .int, 6, 81)
def tX9_whole : TrD := (yX9_whole, cX9_whole, 2, some .int, 6, 81)
def tX9_target : TrD := (yX9_target, cX9_target, 3, some .int, 6, 85)
def tX9_readIn : TrD := (yX9_readIn, cX9_readIn, 2, some .int, 6, 107)
def tX9_finishBy : TrD := (yX9_finishBy, cX9_finishBy, 3, some .int, 6, 128)
def tX9_bestWay : TrD := (yX9_bestWay, cX9_bestWay, 1, some .int, 7, 149)
def tX9_heatIn : TrD := (yX9_heatIn, cX9_heatIn, 2, some .int, 6, 107)
def tX9_widest : TrD := (yX9_widest, cX9_widest, 1, some .int, 2, 36)
def tX9_reason : TrD := (yX9_reason, cX9_reason, 3, some .int, 6, 107)
def tX9_type : TrD := (yX9_type, cX9_type, 2, some .int, 6, 81)
def tX9_clearCommands : TrD := (yX9_clearCommands, cX9_clearCommands, 2, some .int, 0, 0)
def tX9_runCommands : TrD := (yX9_runCommands, cX9_runCommands, 4, some .int, 9, 201)
def tX9_undo : TrD := (yX9_undo, cX9_undo, 1, some .int, 6, 102)
def tX9_digest : TrD := (yX9_digest, cX9_digest, 4, some .long, 8, 149)
def tX9_mixRequests : TrD := (yX9_mixRequests, cX9_mixRequests, 7, some .long, 2, 36)
def tX9_mixLog : TrD := (yX9_mixLog, cX9_mixLog, 7, some .long, 2, 33)
def tX9_mixForecasts : TrD := (yX9_mixForecasts, cX9_mixForecasts, 7, some .long, 7, 107)
def tX9_plateFits : TrD := (yX9_plateFits, cX9_plateFits, 2, some .boolean, 0, 0)
def tX9_requestFits : TrD := (yX9_requestFits, cX9_requestFits, 4, some .boolean, 0, 0)
def tX9_settingFits : TrD := (yX9_settingFits, cX9_settingFits, 2, some .boolean, 0, 0)
def tX9_ticksFit : TrD := (yX9_ticksFit, cX9_ticksFit, 1, some .boolean, 0, 0)
def tX9_timeIsLeft : TrD := (yX9_timeIsLeft, cX9_timeIsLeft, 2, some .boolean, 0, 0)
def tX9_isWay : TrD := (yX9_isWay, cX9_isWay, 1, some .boolean, 0, 0)
def tX9_requestValue : TrD := (yX9_requestValue, cX9_requestValue, 4, some .int, 1, 13)
def tX9_forecastAll : TrD := (yX9_forecastAll, cX9_forecastAll, 2, none, 6, 128)
def tX9_forecast : TrD := (yX9_forecast, cX9_forecast, 3, none, 5, 106)
def tX9_bestForecast : TrD := (yX9_bestForecast, cX9_bestForecast, 4, some .int, 1, 21)
def tX9_save : TrD := (yX9_save, cX9_save, 1, none, 3, 102)
def tX9_dropOldest : TrD := (yX9_dropOldest, cX9_dropOldest, 3, none, 0, 0)
def tX9_carryOut : TrD := (yX9_carryOut, cX9_carryOut, 3, some .boolean, 6, 128)
def tX9_carryOutPlate : TrD := (yX9_carryOutPlate, cX9_carryOutPlate, 3, some .boolean, 2, 42)
def tX9_carryOutRead : TrD := (yX9_carryOutRead, cX9_carryOutRead, 4, some .boolean, 2, 44)
def tX9_carryOutCancel : TrD := (yX9_carryOutCancel, cX9_carryOutCancel, 3, some .boolean, 2, 44)
def tX9_carryOutSet : TrD := (yX9_carryOutSet, cX9_carryOutSet, 3, some .boolean, 1, 21)
def tX9_carryOutTicks : TrD := (yX9_carryOutTicks, cX9_carryOutTicks, 2, some .boolean, 5, 107)
def tX10_init : TrD := (yX10_init, cX10_init, 1, none, 1, 12)
def tX10_thrown : TrD := (yX10_thrown, cX10_thrown, 1, some .int, 0, 0)
def tX10_in : TrD := (yX10_in, cX10_in, 3, some .boolean, 0, 0)
def tX10_throwsAt : TrD := (yX10_throwsAt, cX10_throwsAt, 2, some .boolean, 0, 0)
def tX10_saves : TrD := (yX10_saves, cX10_saves, 2, none, 0, 0)
def tX10_holds : TrD := (yX10_holds, cX10_holds, 2, none, 0, 0)
def tX10_lets : TrD := (yX10_lets, cX10_lets, 2, none, 0, 0)
def tX10_of : TrD := (yX10_of, cX10_of, 3, some .int, 0, 0)
def tX10_placeOf : TrD := (yX10_placeOf, cX10_placeOf, 4, some .int, 1, 22)
def tX10_takes : TrD := (yX10_takes, cX10_takes, 3, none, 0, 0)
def tX10_size : TrD := (yX10_size, cX10_size, 1, some .int, 0, 0)
def tX10_far : TrD := (yX10_far, cX10_far, 2, some .int, 1, 22)
def tX10_isAhead : TrD := (yX10_isAhead, cX10_isAhead, 3, some .boolean, 1, 22)
def tX10_nearest : TrD := (yX10_nearest, cX10_nearest, 5, some .int, 2, 44)
def tX10_earliest : TrD := (yX10_earliest, cX10_earliest, 3, some .int, 1, 22)
def tX10_sweeping : TrD := (yX10_sweeping, cX10_sweeping, 2, some .int, 3, 68)
def tX10_targetBy : TrD := (yX10_targetBy, cX10_targetBy, 2, some .int, 4, 89)
def tX10_steps : TrD := (yX10_steps, cX10_steps, 3, none, 0, 0)
def tX10_moves : TrD := (yX10_moves, cX10_moves, 3, none, 1, 22)
def tX10_logs : TrD := (yX10_logs, cX10_logs, 3, none, 1, 22)
def tX10_reads : TrD := (yX10_reads, cX10_reads, 2, none, 2, 44)
def tX10_givesUp : TrD := (yX10_givesUp, cX10_givesUp, 2, none, 1, 22)
def tX10_ticks : TrD := (yX10_ticks, cX10_ticks, 3, none, 5, 110)
def tX10_plate : TrD := (yX10_plate, cX10_plate, 5, some .int, 1, 22)
def tX10_request : TrD := (yX10_request, cX10_request, 6, some .int, 1, 22)
def tX10_cancel : TrD := (yX10_cancel, cX10_cancel, 4, some .int, 2, 45)
def tX10_set : TrD := (yX10_set, cX10_set, 5, some .int, 1, 22)
def tX10_pass : TrD := (yX10_pass, cX10_pass, 4, some .int, 6, 132)
def tX10_finishes : TrD := (yX10_finishes, cX10_finishes, 2, some .int, 6, 132)
def tX10_finish : TrD := (yX10_finish, cX10_finish, 3, some .int, 7, 153)
def tX10_told : TrD := (yX10_told, cX10_told, 3, some .int, 2, 43)
def tX10_requestOf : TrD := (yX10_requestOf, cX10_requestOf, 4, some .int, 3, 65)
def tX10_requestAt : TrD := (yX10_requestAt, cX10_requestAt, 2, some .int, 1, 22)
def tX10_logOf : TrD := (yX10_logOf, cX10_logOf, 3, some .int, 0, 0)
def tX10_logged : TrD := (yX10_logged, cX10_logged, 3, some .int, 1, 22)
def tX10_armOf : TrD := (yX10_armOf, cX10_armOf, 2, some .int, 0, 0)
def tX10_arm : TrD := (yX10_arm, cX10_arm, 2, some .int, 1, 22)
def tX10_wholeOf : TrD := (yX10_wholeOf, cX10_wholeOf, 2, some .int, 0, 0)
def tX10_whole : TrD := (yX10_whole, cX10_whole, 2, some .int, 1, 22)
def tX10_numberOf : TrD := (yX10_numberOf, cX10_numberOf, 2, some .int, 1, 22)
def tX10_target : TrD := (yX10_target, cX10_target, 2, some .int, 5, 110)
def tX10_readIn : TrD := (yX10_readIn, cX10_readIn, 3, some .int, 6, 132)
def tX10_valueBy : TrD := (yX10_valueBy, cX10_valueBy, 6, some .int, 7, 153)
def tX10_finishBy : TrD := (yX10_finishBy, cX10_finishBy, 3, some .int, 8, 178)
def tX10_best : TrD := (yX10_best, cX10_best, 3, some .int, 8, 178)
def tX10_bestWay : TrD := (yX10_bestWay, cX10_bestWay, 1, some .int, 9, 200)
def tX10_heatBehind : TrD := (yX10_heatBehind, cX10_heatBehind, 3, some .int, 6, 132)
def tX10_heatIn : TrD := (yX10_heatIn, cX10_heatIn, 2, some .int, 7, 154)
def tX10_widestNow : TrD := (yX10_widestNow, cX10_widestNow, 5, some .int, 1, 22)
def tX10_widest : TrD := (yX10_widest, cX10_widest, 1, some .int, 2, 46)
def tX10_reason : TrD := (yX10_reason, cX10_reason, 3, some .int, 5, 110)
def tX10_type : TrD := (yX10_type, cX10_type, 2, some .int, 1, 22)
def tX10_clearCommands : TrD := (yX10_clearCommands, cX10_clearCommands, 2, some .int, 0, 0)
def tX10_isAt : TrD := (yX10_isAt, cX10_isAt, 3, some .boolean, 1, 22)
def tX10_skips : TrD := (yX10_skips, cX10_skips, 1, none, 2, 44)
def tX10_isWord : TrD := (yX10_isWord, cX10_isWord, 10, some .boolean, 0, 0)
def tX10_commandAt : TrD := (yX10_commandAt, cX10_commandAt, 2, some .int, 1, 29)
def tX10_number : TrD := (yX10_number, cX10_number, 3, some .boolean, 3, 64)
def tX10_readsOne : TrD := (yX10_readsOne, cX10_readsOne, 4, some .boolean, 4, 86)
def tX10_fault : TrD := (yX10_fault, cX10_fault, 2, some .int, 5, 109)
def tX10_does : TrD := (yX10_does, cX10_does, 1, none, 7, 155)
def tX10_runCommands : TrD := (yX10_runCommands, cX10_runCommands, 4, some .int, 8, 175)
def tX10_undo : TrD := (yX10_undo, cX10_undo, 2, some .int, 1, 21)
def tX10_say : TrD := (yX10_say, cX10_say, 2, none, 0, 0)
def tX10_digest : TrD := (yX10_digest, cX10_digest, 3, some .long, 9, 200)
def tJ6_compare_7cf53 : TrD := (yJ6_compare_7cf53, cJ6_compare_7cf53, 2, some .int, 0, 0)
theorem thf_48 : Bundle.fit "java/lang/IllegalArgumentException" = true ∧ (∀ w ∈ (vx_at0 "PlateArm" 48 "java/lang/IllegalArgumentException" ["java/lang/RuntimeException", "java/lang/Exception"]).filter goodWord, w ∈ WG) ∧ (∀ w ∈ (vx_at0 "PlateArm" 48 "java/lang/IllegalArgumentException" ["java/lang/RuntimeException", "java/lang/Exception"]).filter (fun w => !goodWord w), w ∈ Cond.castable "java/lang/IllegalArgumentException" "java/lang/IllegalArgumentException" :: EWd.map Cond.declares) ∧ ("java/lang/IllegalArgumentException", "java/lang/IllegalArgumentException") ∈ EWc ∧ (∀ w ∈ Cond.classLink "PlateArm" 46 "java/lang/IllegalArgumentException" :: Cond.initialized "java/lang/IllegalArgumentException" :: (vx_at0 "PlateArm" 48 "java/lang/IllegalArgumentException" ["java/lang/RuntimeException", "java/lang/Exception"]), vx_ot w = true) := by
  refine ⟨by decide +kernel, fun w hw => List.mem_filter.mpr ⟨?_, (List.mem_filter.mp hw).2⟩, by decide +kernel, by decide +kernel, by decide +kernel⟩
  revert w
  decide +kernel
theorem thf_76 : Bundle.fit "java/lang/IllegalStateException" = true ∧ (∀ w ∈ (vx_at0 "PlateArm" 76 "java/lang/IllegalStateException" ["java/lang/RuntimeException", "java/lang/Exception"]).filter goodWord, w ∈ WG) ∧ (∀ w ∈ (vx_at0 "PlateArm" 76 "java/lang/IllegalStateException" ["java/lang/RuntimeException", "java/lang/Exception"]).filter (fun w => !goodWord w), w ∈ Cond.castable "java/lang/IllegalStateException" "java/lang/IllegalStateException" :: EWd.map Cond.declares) ∧ ("java/lang/IllegalStateException", "java/lang/IllegalStateException") ∈ EWc ∧ (∀ w ∈ Cond.classLink "PlateArm" 74 "java/lang/IllegalStateException" :: Cond.initialized "java/lang/IllegalStateException" :: (vx_at0 "PlateArm" 76 "java/lang/IllegalStateException" ["java/lang/RuntimeException", "java/lang/Exception"]), vx_ot w = true) := by
  refine ⟨by decide +kernel, fun w hw => List.mem_filter.mpr ⟨?_, (List.mem_filter.mp hw).2⟩, by decide +kernel, by decide +kernel, by decide +kernel⟩
  revert w
  decide +kernel
theorem thf_90 : Bundle.fit "java/lang/IndexOutOfBoundsException" = true ∧ (∀ w ∈ (vx_at0 "PlateArm" 90 "java/lang/IndexOutOfBoundsException" ["java/lang/RuntimeException", "java/lang/Exception"]).filter goodWord, w ∈ WG) ∧ (∀ w ∈ (vx_at0 "PlateArm" 90 "java/lang/IndexOutOfBoundsException" ["java/lang/RuntimeException", "java/lang/Exception"]).filter (fun w => !goodWord w), w ∈ Cond.castable "java/lang/IndexOutOfBoundsException" "java/lang/IndexOutOfBoundsException" :: EWd.map Cond.declares) ∧ ("java/lang/IndexOutOfBoundsException", "java/lang/IndexOutOfBoundsException") ∈ EWc ∧ (∀ w ∈ Cond.classLink "PlateArm" 88 "java/lang/IndexOutOfBoundsException" :: Cond.initialized "java/lang/IndexOutOfBoundsException" :: (vx_at0 "PlateArm" 90 "java/lang/IndexOutOfBoundsException" ["java/lang/RuntimeException", "java/lang/Exception"]), vx_ot w = true) := by
  refine ⟨by decide +kernel, fun w hw => List.mem_filter.mpr ⟨?_, (List.mem_filter.mp hw).2⟩, by decide +kernel, by decide +kernel, by decide +kernel⟩
  revert w
  decide +kernel
end
section
/-! ===== the fields of the things from before ===== -/
theorem xg_letters : ∀ (j : Nat) (v : Value), ([.float 6, .float 7, .float 8, .float 9, .float 10, .float 11] : List Value)[j]? = some v → (0 + j, "PlateArm$Word", "letters", "Ljava/lang/String;", v) ∈ EF := by
  intro j v h
  match j, h with
  | 0, h => cases h; simp [EF, EFw, EFs]
  | 1, h => cases h; simp [EF, EFw, EFs]
  | 2, h => cases h; simp [EF, EFw, EFs]
  | 3, h => cases h; simp [EF, EFw, EFs]
  | 4, h => cases h; simp [EF, EFw, EFs]
  | 5, h => cases h; simp [EF, EFw, EFs]
  | k + 6, h => simp at h
theorem xg_numbers : ∀ (j : Nat) (v : Value), ([.int 0, .int 2, .int 3, .int 1, .int 2, .int 1] : List Value)[j]? = some v → (0 + j, "PlateArm$Word", "numbers", "I", v) ∈ EF := by
  intro j v h
  match j, h with
  | 0, h => cases h; simp [EF, EFw, EFs]
  | 1, h => cases h; simp [EF, EFw, EFs]
  | 2, h => cases h; simp [EF, EFw, EFs]
  | 3, h => cases h; simp [EF, EFw, EFs]
  | 4, h => cases h; simp [EF, EFw, EFs]
  | 5, h => cases h; simp [EF, EFw, EFs]
  | k + 6, h => simp at h
theorem xg_ordinal : ∀ (j : Nat) (v : Value), ([.int 0, .int 1, .int 2, .int 3, .int 4, .int 5] : List Value)[j]? = some v → (0 + j, "java/lang/Enum", "ordinal", "I", v) ∈ EF := by
  intro j v h
  match j, h with
  | 0, h => cases h; simp [EF, EFw, EFs]
  | 1, h => cases h; simp [EF, EFw, EFs]
  | 2, h => cases h; simp [EF, EFw, EFs]
  | 3, h => cases h; simp [EF, EFw, EFs]
  | 4, h => cases h; simp [EF, EFw, EFs]
  | 5, h => cases h; simp [EF, EFw, EFs]
  | k + 6, h => simp at h
theorem xg_coder : ∀ (j : Nat) (v : Value), ([.int 0, .int 0, .int 0, .int 0, .int 0, .int 0] : List Value)[j]? = some v → (6 + j, "java/lang/String", "coder", "B", v) ∈ EF := by
  intro j v h
  match j, h with
  | 0, h => cases h; simp [EF, EFw, EFs]
  | 1, h => cases h; simp [EF, EFw, EFs]
  | 2, h => cases h; simp [EF, EFw, EFs]
  | 3, h => cases h; simp [EF, EFw, EFs]
  | 4, h => cases h; simp [EF, EFw, EFs]
  | 5, h => cases h; simp [EF, EFw, EFs]
  | k + 6, h => simp at h
theorem xg_value : ∀ (j : Nat) (v : Value), ([.float 12, .float 13, .float 14, .float 15, .float 16, .float 17] : List Value)[j]? = some v → (6 + j, "java/lang/String", "value", "[B", v) ∈ EF := by
  intro j v h
  match j, h with
  | 0, h => cases h; simp [EF, EFw, EFs]
  | 1, h => cases h; simp [EF, EFw, EFs]
  | 2, h => cases h; simp [EF, EFw, EFs]
  | 3, h => cases h; simp [EF, EFw, EFs]
  | 4, h => cases h; simp [EF, EFw, EFs]
  | 5, h => cases h; simp [EF, EFw, EFs]
  | k + 6, h => simp at h
theorem xl_words : ∀ (j z : Nat), ([6] : List Nat)[j]? = some z → ∃ ty f, (21 + j, ty, z, f) ∈ ET := by
  intro j z h
  match j, h with
  | 0, h => cases h; exact ⟨.object "PlateArm$Word", fun j => .float (UInt32.ofNat j), by simp [ET]⟩
  | k + 1, h => simp at h
end
section
theorem i_vc : Claimed_1_1 ∧ Claimed_1_2 := sorry
end
