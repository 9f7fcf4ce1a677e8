set_option maxHeartbeats 2000000 in
theorem lw_ext {args : Array Value} {s : State} {A : Nat → Prop} {b : Nat} (hts : ∀ w ∈ lw_tbl, w.before args s = true) (hv : NarA args s) (hA : ∀ a : Nat, a < s.heap.size → ¬ A a) : ∃ ex : Nat → Nat, ex 23 = b ∧ XE ex A s s.heap := by
  have hs := flat_of_before _ hv
  have hw0 : (Cond.exactly (tWd "UNKNOWN") "PlateArm$Word").before args s = true := hs _ (by decide +kernel)
  obtain ⟨w0, ew0⟩ := va_ExR hw0
  have hw1 : (Cond.exactly (tWd "PLATE") "PlateArm$Word").before args s = true := hs _ (by decide +kernel)
  obtain ⟨w1, ew1⟩ := va_ExR hw1
  have hw2 : (Cond.exactly (tWd "READ") "PlateArm$Word").before args s = true := hs _ (by decide +kernel)
  obtain ⟨w2, ew2⟩ := va_ExR hw2
  have hw3 : (Cond.exactly (tWd "CANCEL") "PlateArm$Word").before args s = true := hs _ (by decide +kernel)
  obtain ⟨w3, ew3⟩ := va_ExR hw3
  have hw4 : (Cond.exactly (tWd "SET") "PlateArm$Word").before args s = true := hs _ (by decide +kernel)
  obtain ⟨w4, ew4⟩ := va_ExR hw4
  have hw5 : (Cond.exactly (tWd "TICKS") "PlateArm$Word").before args s = true := hs _ (by decide +kernel)
  obtain ⟨w5, ew5⟩ := va_ExR hw5
  have ht0 : (Cond.exactly (tSt 50) "java/lang/String").before args s = true := hs _ (by decide +kernel)
  obtain ⟨t0, et0⟩ := va_ExR ht0
  have ht1 : (Cond.exactly (tSt 56) "java/lang/String").before args s = true := hs _ (by decide +kernel)
  obtain ⟨t1, et1⟩ := va_ExR ht1
  have ht2 : (Cond.exactly (tSt 59) "java/lang/String").before args s = true := hs _ (by decide +kernel)
  obtain ⟨t2, et2⟩ := va_ExR ht2
  have ht3 : (Cond.exactly (tSt 62) "java/lang/String").before args s = true := hs _ (by decide +kernel)
  obtain ⟨t3, et3⟩ := va_ExR ht3
  have ht4 : (Cond.exactly (tSt 65) "java/lang/String").before args s = true := hs _ (by decide +kernel)
  obtain ⟨t4, et4⟩ := va_ExR ht4
  have ht5 : (Cond.exactly (tSt 68) "java/lang/String").before args s = true := hs _ (by decide +kernel)
  obtain ⟨t5, et5⟩ := va_ExR ht5
  obtain ⟨y0, ey0, hy0⟩ := x_by0 hv hA
  obtain ⟨y1, ey1, hy1⟩ := x_by1 hv hA
  obtain ⟨y2, ey2, hy2⟩ := x_by2 hv hA
  obtain ⟨y3, ey3, hy3⟩ := x_by3 hv hA
  obtain ⟨y4, ey4, hy4⟩ := x_by4 hv hA
  obtain ⟨y5, ey5, hy5⟩ := x_by5 hv hA
  obtain ⟨lo, elo, hlo⟩ := x_lo hv hA
  obtain ⟨hi, ehi, hhi⟩ := x_hi hv hA
  obtain ⟨sw, esw, hsw⟩ := x_sw hv hA
  obtain ⟨ws, ews, hws⟩ := x_ws hv hA ew0 ew1 ew2 ew3 ew4 ew5
  have hinj := x_inj hv ew0 ew1 ew2 ew3 ew4 ew5
  obtain ⟨f0a, f0b, f0c⟩ := x_ef0 hv hA ew0 et0
  obtain ⟨g0a, g0b⟩ := x_es0 hv hA et0 ey0
  obtain ⟨f1a, f1b, f1c⟩ := x_ef1 hv hA ew1 et1
  obtain ⟨g1a, g1b⟩ := x_es1 hv hA et1 ey1
  obtain ⟨f2a, f2b, f2c⟩ := x_ef2 hv hA ew2 et2
  obtain ⟨g2a, g2b⟩ := x_es2 hv hA et2 ey2
  obtain ⟨f3a, f3b, f3c⟩ := x_ef3 hv hA ew3 et3
  obtain ⟨g3a, g3b⟩ := x_es3 hv hA et3 ey3
  obtain ⟨f4a, f4b, f4c⟩ := x_ef4 hv hA ew4 et4
  obtain ⟨g4a, g4b⟩ := x_es4 hv hA et4 ey4
  obtain ⟨f5a, f5b, f5c⟩ := x_ef5 hv hA ew5 et5
  obtain ⟨g5a, g5b⟩ := x_es5 hv hA et5 ey5
  obtain ⟨si, hsi⟩ : ∃ si : Nat, va_Z "jdk/internal/util/Preconditions" "SIOOBE_FORMATTER" "Ljava/util/function/BiFunction;" .null A s s.heap ∨ va_Z "jdk/internal/util/Preconditions" "SIOOBE_FORMATTER" "Ljava/util/function/BiFunction;" (.ref si) A s s.heap := by
    rcases va_Zqof (C := "jdk/internal/util/Preconditions") (n := "SIOOBE_FORMATTER") (d := "Ljava/util/function/BiFunction;") (tin hts 536 (by decide +kernel)) (tin hts 92 (by decide +kernel)) (hs _ (by decide +kernel)) hA with h | ⟨t, h⟩
    · exact ⟨0, Or.inl h⟩
    · exact ⟨t, Or.inr h⟩
  have z0 := va_Zof (C := "PlateArm$Word") (n := "UNKNOWN") (d := "LPlateArm$Word;") (tin hts 297 (by decide +kernel)) (tin hts 79 (by decide +kernel)) ew0 hA
  have z1 := va_Zof (C := "PlateArm$CommandScan") (n := "WORDS") (d := "[LPlateArm$Word;") (tin hts 505 (by decide +kernel)) (tin hts 77 (by decide +kernel)) ews hA
  have z2 := va_Zof (C := "PlateArm") (n := "LOWEST_SETTING") (d := "[I") (tin hts 662 (by decide +kernel)) (tin hts 70 (by decide +kernel)) elo hA
  have z3 := va_Zof (C := "PlateArm") (n := "HIGHEST_SETTING") (d := "[I") (tin hts 664 (by decide +kernel)) (tin hts 70 (by decide +kernel)) ehi hA
  have z4 := va_Zof (C := "PlateArm$1") (n := "$SwitchMap$PlateArm$Word") (d := "[I") (tin hts 590 (by decide +kernel)) (tin hts 94 (by decide +kernel)) esw hA
  have z5 := va_Zof (C := "java/lang/String") (n := "COMPACT_STRINGS") (d := "Z") (tin hts 519 (by decide +kernel)) (tin hts 90 (by decide +kernel)) (va_eqi (z := 1) (hs _ (by decide +kernel))) hA
  refine ⟨fun k => [w0, w1, w2, w3, w4, w5, t0, t1, t2, t3, t4, t5, y0, y1, y2, y3, y4, y5, lo, hi, sw, ws, si, b].getD k 0, rfl, ?_⟩
  refine ⟨?_, ?_, ?_, ?_, ⟨?_, ?_⟩, ?_, ?_, ?_, ?_, ?_, ?_, ?_, ?_⟩
  · intro q hq
    simp only [EZ, List.cons_append, List.nil_append, List.mem_cons, List.not_mem_nil, or_false] at hq
    rcases hq with rfl | rfl | rfl | rfl | rfl | rfl
    · exact z0
    · exact z1
    · exact z2
    · exact z3
    · exact z4
    · exact z5
  · intro q hq
    simp only [ET, List.cons_append, List.nil_append, List.mem_cons, List.not_mem_nil, or_false] at hq
    rcases hq with rfl | rfl | rfl | rfl | rfl | rfl | rfl | rfl | rfl | rfl
    · exact va_Tg hlo (fun _ _ => rfl)
    · exact va_Tg hhi (fun _ _ => rfl)
    · exact va_Tg hsw (fun _ _ => rfl)
    · exact va_Tg hws (fun j hj => by have hj : j < 6 := hj; rcases (show j = 0 ∨ j = 1 ∨ j = 2 ∨ j = 3 ∨ j = 4 ∨ j = 5 by omega) with rfl | rfl | rfl | rfl | rfl | rfl <;> rfl)
    · exact va_Tg hy0 (fun _ _ => rfl)
    · exact va_Tg hy1 (fun _ _ => rfl)
    · exact va_Tg hy2 (fun _ _ => rfl)
    · exact va_Tg hy3 (fun _ _ => rfl)
    · exact va_Tg hy4 (fun _ _ => rfl)
    · exact va_Tg hy5 (fun _ _ => rfl)
  · intro q hq
    simp only [EO, List.cons_append, List.nil_append, List.mem_cons, List.not_mem_nil, or_false] at hq
    rcases hq with rfl | rfl | rfl | rfl | rfl | rfl | rfl | rfl | rfl | rfl | rfl | rfl
    · exact va_Oof hw0 ew0 hA
    · exact va_Oof hw1 ew1 hA
    · exact va_Oof hw2 ew2 hA
    · exact va_Oof hw3 ew3 hA
    · exact va_Oof hw4 ew4 hA
    · exact va_Oof hw5 ew5 hA
    · exact va_Oof ht0 et0 hA
    · exact va_Oof ht1 et1 hA
    · exact va_Oof ht2 et2 hA
    · exact va_Oof ht3 et3 hA
    · exact va_Oof ht4 et4 hA
    · exact va_Oof ht5 et5 hA
  · intro q hq
    simp only [EF, EFw, EFs, List.cons_append, List.nil_append, List.mem_cons, List.not_mem_nil, or_false] at hq
    rcases hq with rfl | rfl | rfl | rfl | rfl | rfl | rfl | rfl | rfl | rfl | rfl | rfl | rfl | rfl | rfl | rfl | rfl | rfl | rfl | rfl | rfl | rfl | rfl | rfl | rfl | rfl | rfl | rfl | rfl | rfl
    · exact f0a
    · exact f0b
    · exact f0c
    · exact f1a
    · exact f1b
    · exact f1c
    · exact f2a
    · exact f2b
    · exact f2c
    · exact f3a
    · exact f3b
    · exact f3c
    · exact f4a
    · exact f4b
    · exact f4c
    · exact f5a
    · exact f5b
    · exact f5c
    · exact g0a
    · exact g0b
    · exact g1a
    · exact g1b
    · exact g2a
    · exact g2b
    · exact g3a
    · exact g3b
    · exact g4a
    · exact g4b
    · exact g5a
    · exact g5b
  · exact vx_Zqof (tin hts 717 (by decide +kernel)) (tin hts 81 (by decide +kernel)) (hs _ (by decide +kernel)) hA
  · exact vx_Zqof (tin hts 719 (by decide +kernel)) (tin hts 81 (by decide +kernel)) (hs _ (by decide +kernel)) hA
  · intro i j hi hj e
    refine hinj i j hi hj ?_
    rcases (show i = 0 ∨ i = 1 ∨ i = 2 ∨ i = 3 ∨ i = 4 ∨ i = 5 by omega) with rfl | rfl | rfl | rfl | rfl | rfl <;> rcases (show j = 0 ∨ j = 1 ∨ j = 2 ∨ j = 3 ∨ j = 4 ∨ j = 5 by omega) with rfl | rfl | rfl | rfl | rfl | rfl <;> exact e
  · intro q hq
    simp only [EWn, List.cons_append, List.nil_append, List.mem_cons, List.not_mem_nil, or_false] at hq
    rcases hq with rfl | rfl | rfl | rfl | rfl | rfl | rfl
    · exact va_Nw.of rfl (tin hts 105 (by decide +kernel))
    · exact va_Nw.of rfl (tin hts 111 (by decide +kernel))
    · exact va_Nw.of rfl (tin hts 144 (by decide +kernel))
    · exact va_Nw.of rfl (tin hts 184 (by decide +kernel))
    · exact va_Nw.of rfl (tin hts 198 (by decide +kernel))
    · exact va_Nw.of rfl (tin hts 276 (by decide +kernel))
    · exact va_Nw.of rfl (tin hts 292 (by decide +kernel))
  · intro q hq
    simp only [EWc, List.cons_append, List.nil_append, List.mem_cons, List.not_mem_nil, or_false] at hq
    rcases hq with rfl | rfl | rfl
    · exact va_Nw.of rfl (tin hts 692 (by decide +kernel))
    · exact va_Nw.of rfl (tin hts 818 (by decide +kernel))
    · exact va_Nw.of rfl (tin hts 841 (by decide +kernel))
  · intro q hq
    simp only [ENc, List.cons_append, List.nil_append, List.mem_cons, List.not_mem_nil, or_false] at hq
    rcases hq with rfl | rfl
    · exact va_Nc.of (hs (.not (.castable "java/lang/IllegalStateException" "java/lang/IllegalArgumentException")) (by decide +kernel))
    · exact va_Nc.of (hs (.not (.castable "java/lang/IllegalArgumentException" "java/lang/IndexOutOfBoundsException")) (by decide +kernel))
  · exact va_AO.of (tin hts 271 (by decide +kernel))
  · exact (tin hts 273 (by decide +kernel) : (Cond.arrayOver (.array .int)).before args s = true)
  · intro q hq
    simp only [EWd, List.cons_append, List.nil_append, List.mem_cons, List.not_mem_nil, or_false] at hq
    rcases hq with rfl | rfl | rfl
    · exact va_Nw.of rfl (tin hts 693 (by decide +kernel))
    · exact va_Nw.of rfl (tin hts 695 (by decide +kernel))
    · exact va_Nw.of rfl (tin hts 697 (by decide +kernel))
  · exact hsi
theorem lw_cls {args : Array Value} {s : State} (hts : ∀ w ∈ lw_tbl, w.before args s = true) : ∃ (D : va_G) (cy : Nat → Nat), va_K D vwCl (TY cy) s := by
  obtain ⟨c0, i0, k0⟩ := u_known (ws := lw_tbl) (C := RX1) (T := TX1) (N := 5) (n := 5) hts inw_0 (tin hts 110 (by decide +kernel))
  obtain ⟨c1, i1, k1⟩ := u_known (ws := lw_tbl) (C := RX2) (T := TX2) (N := 6) (n := 6) hts inw_1 (tin hts 291 (by decide +kernel))
  obtain ⟨c2, i2, k2⟩ := u_known (ws := lw_tbl) (C := RX3) (T := TX3) (N := 2) (n := 2) hts inw_2 (tin hts 275 (by decide +kernel))
  obtain ⟨c3, i3, k3⟩ := u_known (ws := lw_tbl) (C := RX4) (T := TX4) (N := 2) (n := 2) hts inw_3 (tin hts 183 (by decide +kernel))
  obtain ⟨c4, i4, k4⟩ := u_known (ws := lw_tbl) (C := RX5) (T := TX5) (N := 7) (n := 7) hts inw_4 (tin hts 143 (by decide +kernel))
  obtain ⟨c5, i5, k5⟩ := u_known (ws := lw_tbl) (C := RX6) (T := TX6) (N := 8) (n := 8) hts inw_5 (tin hts 104 (by decide +kernel))
  obtain ⟨c6, i6, k6⟩ := u_known (ws := lw_tbl) (C := RX7) (T := TX7) (N := 7) (n := 7) hts inw_6 (tin hts 197 (by decide +kernel))
  obtain ⟨c7, i7, k7⟩ := u_known (ws := lw_tbl) (C := RX9) (T := TX9) (N := 7) (n := 7) hts inw_7 (tin hts 96 (by decide +kernel))
  obtain ⟨c8, i8, k8⟩ := u_known (ws := lw_tbl) (C := RX10) (T := TX10) (N := 14) (n := 14) hts inw_8 (tin hts 967 (by decide +kernel))
  obtain ⟨a0, ka0, m0, x0, u0, v0⟩ := Cond.arrayClass_spec (type := .int) (args := args) (first := s) (o := none) (s := s) (idx := []) (tin hts 141 (by decide +kernel))
  obtain ⟨a1, ka1, m1, x1, u1, v1⟩ := Cond.arrayClass_spec (type := .byte) (args := args) (first := s) (o := none) (s := s) (idx := []) (tin hts 289 (by decide +kernel))
  obtain ⟨a2, ka2, m2, x2, u2, v2⟩ := Cond.arrayClass_spec (type := .long) (args := args) (first := s) (o := none) (s := s) (idx := []) (tin hts 1276 (by decide +kernel))
  obtain ⟨m3, a3, ka3, x3, -, u3, v3, w3⟩ := Cond.arrayOver_spec (n := "PlateArm$State") (args := args) (first := s) (o := none) (s := s) (idx := []) (tin hts 271 (by decide +kernel))
  obtain ⟨m4, a4, ka4, u4, v4, x4⟩ := aOA_spec (ty := .int) (tin hts 273 (by decide +kernel))
  refine ⟨(fun c => [c0, c1, c2, c3, c4, c5, c6, c7, c8].getD c 0, fun c => match c with | 0 => i0 | 1 => i1 | 2 => i2 | 3 => i3 | 4 => i4 | 5 => i5 | 6 => i6 | 7 => i7 | 8 => i8 | _ => i0), fun k => [a0, a1, a2, a3, a4].getD k 0, ⟨fun c q hq => ?_, fun k q hk => ?_⟩⟩
  · match c, hq with
    | 0, hq => cases hq; exact k0
    | 1, hq => cases hq; exact k1
    | 2, hq => cases hq; exact k2
    | 3, hq => cases hq; exact k3
    | 4, hq => cases hq; exact k4
    | 5, hq => cases hq; exact k5
    | 6, hq => cases hq; exact k6
    | 7, hq => cases hq; exact k7
    | 8, hq => cases hq; exact k8
    | c + 9, hq => simp [vwCl] at hq
  · match k, hk with
    | 0, hk => cases hk; exact ⟨fun n z => ⟨(fun k h => by cases h), ka0, u0, m0, v0⟩, x0⟩
    | 1, hk => cases hk; exact ⟨fun n z => ⟨(fun k h => by cases h), ka1, u1, m1, v1⟩, x1⟩
    | 2, hk => cases hk; exact ⟨fun n z => ⟨(fun k h => by cases h), ka2, u2, m2, v2⟩, x2⟩
    | 3, hk => cases hk; exact ⟨fun n z => ⟨(fun k h => by cases h), ka3, u3, m3, v3⟩, ka3, m3, u3, v3, x3, w3⟩
    | 4, hk => cases hk; exact ⟨fun n z => ⟨(fun k h => by cases h), ka4, u4, m4, v4⟩, x4⟩
    | k + 5, hk => simp [TY] at hk
