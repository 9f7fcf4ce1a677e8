set_option maxHeartbeats 2000000 in
theorem lw_ext {args : Array Value} {s : State} {A : Nat → Prop} {b Lc : Nat} {xs : Nat → Int32} (hLc : Lc ≤ 260) (hXs : va_X b Lc xs s s.heap) (hbA : ¬ A b) (hts : ∀ w ∈ lw_tbl, w.before args s = true) (hv : NarA args s) (hA : ∀ a : Nat, a < s.heap.size → ¬ A a) : ∃ ex : Nat → Nat, ex 23 = b ∧ XE ex A s s.heap := by
  have hs := flat_of_before _ hv
  have hw0 : (Cond.exactly (tWd "UNKNOWN") "PlateArm$Word").before args s = true := hs _ (by decide +kernel)
  obtain ⟨w0, ew0⟩ := va_ExR hw0
  obtain ⟨lo, elo, hlo⟩ := x_lo hv hA
  obtain ⟨hi, ehi, hhi⟩ := x_hi hv hA
  have z0 := va_Zof (C := "PlateArm$Word") (n := "UNKNOWN") (d := "LPlateArm$Word;") (tin hts 233 (by decide +kernel)) (tin hts 24 (by decide +kernel)) ew0 hA
  have z1 := va_Zof (C := "PlateArm") (n := "LOWEST_SETTING") (d := "[I") (tin hts 502 (by decide +kernel)) (tin hts 15 (by decide +kernel)) elo hA
  have z2 := va_Zof (C := "PlateArm") (n := "HIGHEST_SETTING") (d := "[I") (tin hts 504 (by decide +kernel)) (tin hts 15 (by decide +kernel)) ehi hA
  refine ⟨fun k => [w0, w0, w0, w0, w0, w0, w0, w0, w0, w0, w0, w0, w0, w0, w0, w0, w0, w0, lo, hi, w0, w0, w0, b].getD k 0, rfl, ?_⟩
  refine ⟨?_, ?_, ?_, ?_, ⟨?_, ?_⟩, ?_, ?_, ?_, ?_, ?_, ?_, ?_, ?_⟩
  · intro q hq
    simp only [EZ, List.cons_append, List.nil_append, List.mem_cons, List.not_mem_nil, or_false] at hq
    rcases hq with rfl | rfl | rfl
    · exact z0
    · exact z1
    · exact z2
  · intro q hq
    simp only [ET, List.cons_append, List.nil_append, List.mem_cons, List.not_mem_nil, or_false] at hq
    rcases hq with rfl | rfl
    · exact va_Tg hlo (fun _ _ => rfl)
    · exact va_Tg hhi (fun _ _ => rfl)
  · intro q hq
    simp only [EO, List.mem_cons, List.not_mem_nil, or_false] at hq
    subst hq
    exact va_Oof hw0 ew0 hA
  · intro q hq
    simp [EF] at hq
  · exact vx_Zqof (tin hts 322 (by decide +kernel)) (tin hts 25 (by decide +kernel)) (hs _ (by decide +kernel)) hA
  · exact vx_Zqof (tin hts 324 (by decide +kernel)) (tin hts 25 (by decide +kernel)) (hs _ (by decide +kernel)) hA
  · intro i j hi hj e
    omega
  · intro q hq
    simp only [EWn, List.cons_append, List.nil_append, List.mem_cons, List.not_mem_nil, or_false] at hq
    rcases hq with rfl | rfl | rfl | rfl | rfl | rfl | rfl
    · exact va_Nw.of rfl (tin hts 43 (by decide +kernel))
    · exact va_Nw.of rfl (tin hts 49 (by decide +kernel))
    · exact va_Nw.of rfl (tin hts 82 (by decide +kernel))
    · exact va_Nw.of rfl (tin hts 122 (by decide +kernel))
    · exact va_Nw.of rfl (tin hts 136 (by decide +kernel))
    · exact va_Nw.of rfl (tin hts 214 (by decide +kernel))
    · exact va_Nw.of rfl (tin hts 228 (by decide +kernel))
  · intro q hq
    simp only [EWc, List.cons_append, List.nil_append, List.mem_cons, List.not_mem_nil, or_false] at hq
    rcases hq with rfl | rfl | rfl
    · exact va_Nw.of rfl (tin hts 297 (by decide +kernel))
    · exact va_Nw.of rfl (tin hts 430 (by decide +kernel))
    · exact va_Nw.of rfl (tin hts 466 (by decide +kernel))
  · intro q hq
    simp only [ENc, List.cons_append, List.nil_append, List.mem_cons, List.not_mem_nil, or_false] at hq
    rcases hq with rfl | rfl
    · exact va_Nc.of (hs (.not (.castable "java/lang/IllegalStateException" "java/lang/IllegalArgumentException")) (by decide +kernel))
    · exact va_Nc.of (hs (.not (.castable "java/lang/IllegalArgumentException" "java/lang/IndexOutOfBoundsException")) (by decide +kernel))
  · exact va_AO.of (tin hts 209 (by decide +kernel))
  · exact (tin hts 211 (by decide +kernel) : (Cond.arrayOver (.array .int)).before args s = true)
  · intro q hq
    simp only [EWd, List.cons_append, List.nil_append, List.mem_cons, List.not_mem_nil, or_false] at hq
    rcases hq with rfl | rfl | rfl
    · exact va_Nw.of rfl (tin hts 298 (by decide +kernel))
    · exact va_Nw.of rfl (tin hts 300 (by decide +kernel))
    · exact va_Nw.of rfl (tin hts 302 (by decide +kernel))
  · obtain ⟨scr, h1, h2, h3, h4, h5⟩ := hXs
    exact ⟨Lc, xs, hLc, scr, h1, h2, h3, Nat.le_of_eq h4.symm, by rw [h4], h5, hbA⟩
theorem lw_cls {args : Array Value} {s : State} (hts : ∀ w ∈ lw_tbl, w.before args s = true) : ∃ (D : va_G) (cy : Nat → Nat), va_K D vwCl (TY cy) s := by
  obtain ⟨c0, i0, k0⟩ := u_known (ws := lw_tbl) (C := RX1) (T := TX1) (N := 5) (n := 5) hts inw_0 (tin hts 48 (by decide +kernel))
  obtain ⟨c1, i1, k1⟩ := u_known (ws := lw_tbl) (C := RX2) (T := TX2) (N := 6) (n := 6) hts inw_1 (tin hts 227 (by decide +kernel))
  obtain ⟨c2, i2, k2⟩ := u_known (ws := lw_tbl) (C := RX3) (T := TX3) (N := 2) (n := 2) hts inw_2 (tin hts 213 (by decide +kernel))
  obtain ⟨c3, i3, k3⟩ := u_known (ws := lw_tbl) (C := RX4) (T := TX4) (N := 2) (n := 2) hts inw_3 (tin hts 121 (by decide +kernel))
  obtain ⟨c4, i4, k4⟩ := u_known (ws := lw_tbl) (C := RX5) (T := TX5) (N := 7) (n := 7) hts inw_4 (tin hts 81 (by decide +kernel))
  obtain ⟨c5, i5, k5⟩ := u_known (ws := lw_tbl) (C := RX6) (T := TX6) (N := 8) (n := 8) hts inw_5 (tin hts 42 (by decide +kernel))
  obtain ⟨c6, i6, k6⟩ := u_known (ws := lw_tbl) (C := RX7) (T := TX7) (N := 7) (n := 7) hts inw_6 (tin hts 135 (by decide +kernel))
  obtain ⟨c7, i7, k7⟩ := u_known (ws := lw_tbl) (C := RX9) (T := TX9) (N := 7) (n := 7) hts inw_7 (tin hts 34 (by decide +kernel))
  obtain ⟨a0, ka0, m0, x0, u0, v0⟩ := Cond.arrayClass_spec (type := .int) (args := args) (first := s) (o := none) (s := s) (idx := []) (tin hts 79 (by decide +kernel))
  obtain ⟨a1, ka1, m1, x1, u1, v1⟩ := Cond.arrayClass_spec (type := .byte) (args := args) (first := s) (o := none) (s := s) (idx := []) (tin hts 225 (by decide +kernel))
  obtain ⟨m3, a3, ka3, x3, -, u3, v3, w3⟩ := Cond.arrayOver_spec (n := "PlateArm$State") (args := args) (first := s) (o := none) (s := s) (idx := []) (tin hts 209 (by decide +kernel))
  obtain ⟨m4, a4, ka4, u4, v4, x4⟩ := aOA_spec (ty := .int) (tin hts 211 (by decide +kernel))
  refine ⟨(fun c => [c0, c1, c2, c3, c4, c5, c6, c7].getD c 0, fun c => match c with | 0 => i0 | 1 => i1 | 2 => i2 | 3 => i3 | 4 => i4 | 5 => i5 | 6 => i6 | 7 => i7 | _ => i0), fun k => [a0, a1, a1, a3, a4].getD k 0, ⟨fun c q hq => ?_, fun k q hk => ?_⟩⟩
  · match c, hq with
    | 0, hq => cases hq; exact k0
    | 1, hq => cases hq; exact k1
    | 2, hq => cases hq; exact k2
    | 3, hq => cases hq; exact k3
    | 4, hq => cases hq; exact k4
    | 5, hq => cases hq; exact k5
    | 6, hq => cases hq; exact k6
    | 7, hq => cases hq; exact k7
    | c + 8, hq => simp [vwCl] at hq
  · match k, hk with
    | 0, hk => cases hk; exact ⟨fun n z => ⟨(fun k h => by cases h), ka0, u0, m0, v0⟩, x0⟩
    | 1, hk => cases hk; exact ⟨fun n z => ⟨(fun k h => by cases h), ka1, u1, m1, v1⟩, x1⟩
    | 2, hk => cases hk; exact ⟨fun n z => ⟨(fun k h => by cases h), ka1, u1, m1, v1⟩, x1⟩
    | 3, hk => cases hk; exact ⟨fun n z => ⟨(fun k h => by cases h), ka3, u3, m3, v3⟩, ka3, m3, u3, v3, x3, w3⟩
    | 4, hk => cases hk; exact ⟨fun n z => ⟨(fun k h => by cases h), ka4, u4, m4, v4⟩, x4⟩
    | k + 5, hk => simp [TY] at hk
