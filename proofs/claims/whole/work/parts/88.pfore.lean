/-! ===== PlateArm: forecasts ===== -/
variable {Q : AQ} {mc ms T : Nat} {sc len : Int32} {S L B : Nat → Int32} {R fc : Nat → Nat → Int32} {rest : AM} {s : Sg} {c : Scn} {f : Nat → Option Nat} {tw : Wd}
def frc (s : Sg) (way : Int32) (i : Nat) : Int32 := if i = 5 then (fcS s way).2.1 9 - s.1 9 + (fcS s way).2.1 10 - s.1 10 else valV s way i
theorem frc_v (s : Sg) (way : Int32) : frc s way 0 = nI (fcS s way).1 ∧ frc s way 1 = (fcS s way).2.1 8 - s.1 8 ∧ frc s way 2 = (fcS s way).2.1 9 - s.1 9 ∧ frc s way 3 = (fcS s way).2.1 11 - s.1 11 ∧ frc s way 4 = (fcS s way).2.1 18 ∧ frc s way 5 = (fcS s way).2.1 9 - s.1 9 + (fcS s way).2.1 10 - s.1 10 := by
  unfold frc valV
  refine ⟨?_, ?_, ?_, ?_, ?_, ?_⟩
  · rw [if_neg (by decide), if_pos rfl]
  · rw [if_neg (by decide), if_neg (by decide), if_pos rfl]
  · rw [if_neg (by decide), if_neg (by decide), if_neg (by decide), if_pos rfl]
  · rw [if_neg (by decide), if_neg (by decide), if_neg (by decide), if_neg (by decide), if_pos rfl]
  · rw [if_neg (by decide), if_neg (by decide), if_neg (by decide), if_neg (by decide), if_neg (by decide), if_pos rfl]
  · rw [if_pos rfl]
def setR (fc : Nat → Nat → Int32) (j : Nat) (row : Nat → Int32) : Nat → Nat → Int32 := fun k => if k = j then row else fc k
theorem cs_way {S2 L2 : Nat → Int32} {R2 : Nat → Nat → Int32} {way : Int32} (hC : CS T s S2 R2 L2) : CS T (wayS s way) (upd S2 0 way) R2 L2 := by
  obtain ⟨a, b, w, t, c1, c2, c3⟩ := hC
  refine ⟨fun j hj => ?_, b, w, t, c1, c2, c3⟩
  show upd S2 0 way j = upd s.1 2 way (2 + j)
  by_cases h : j = 0
  · rw [h]; rfl
  · rw [upd_o h, upd_o (by omega)]
    exact a j hj
set_option maxRecDepth 20000 in
theorem p_forecast_0 {wv : Int32} (hw : wv = nI 0) (hI : Inv T s) (hT : T + 12 < 2 ^ 31) (hC : CS T s S R L) (hQ : ∀ tw1 row, (∀ i, i < 6 → row i = frc s wv i) → Q (.inl none) (p5 sc s S R L tw1 f (setR fc 0 row) len B c rest)) : Tr tX9_forecast mc ms [.ref 0, .int wv] (p5 sc s S R L tw f fc len B c rest) Q := by
  have v0 : vp_in wv 4 := by rw [hw]; exact in_nI (by decide) (by decide)
  have hf : fcR wv.toNatClampNeg = some 27 := by rw [hw, nI_c (by decide)]; rfl
  have hw3 : 0 ≤ wv.toInt ∧ wv.toInt ≤ 3 := by rw [hw]; exact nI_03 (by decide)
  obtain ⟨r0, r1, r2, r3, r4, r5⟩ := frc_v s wv
  refine Tr.of sX9_forecast (by decide +kernel) (Nat.le_of_ble_eq_true rfl) fun X hX => ?_
  have p86 : ∀ (S3 : Nat → Int32) (R3 : Nat → Nat → Int32) (L3 row : Nat → Int32), row 0 = frc s wv 0 → row 1 = frc s wv 1 → row 2 = frc s wv 2 → X 86 [some (.ref 0), some (.int wv), some (.ref 27)] [] (p5 sc s S R L ((fcS s wv).2.1, nI (fcS s wv).2.2.1.length, S3, R3, L3) f (setR fc 0 row) len B c rest) (mc, ms) := by
    intro S3 R3 L3 row q0 q1 q2
    refine go hX (fun _ => none) 60 ?_
    refine ⟨in_lit (by decide), in_lit (by decide), in_lit (by decide), in_lit (by decide), ?_⟩
    have := hQ ((fcS s wv).2.1, nI (fcS s wv).2.2.1.length, S3, R3, L3) (upd (upd (upd row 3 ((fcS s wv).2.1 11 - s.1 11)) 4 ((fcS s wv).2.1 18)) 5 (row 2 + (fcS s wv).2.1 10 - s.1 10)) (fun i hi => ?_)
    · exact this
    · match i, hi with
      | 0, _ => rw [upd_o (by decide), upd_o (by decide), upd_o (by decide)]; exact q0
      | 1, _ => rw [upd_o (by decide), upd_o (by decide), upd_o (by decide)]; exact q1
      | 2, _ => rw [upd_o (by decide), upd_o (by decide), upd_o (by decide)]; exact q2
      | 3, _ => rw [upd_o (by decide), upd_o (by decide), upd_i, r3]
      | 4, _ => rw [upd_o (by decide), upd_i, r4]
      | 5, _ => rw [upd_i, r5, q2, r2]
  have p37 : ∀ (S3 : Nat → Int32) (R3 : Nat → Nat → Int32) (L3 : Nat → Int32), X 37 [some (.ref 0), some (.int wv), some (.ref 27)] [.int (nI (fcS s wv).1), .int 0, .ref 27] (p5 sc s S R L ((fcS s wv).2.1, nI (fcS s wv).2.2.1.length, S3, R3, L3) f fc len B c rest) (mc, ms) := by
    intro S3 R3 L3
    refine go hX (fun pc => if pc = 86 then some 3 else none) 60 ?_
    refine ⟨in_lit (by decide), in_lit (by decide), in_lit (by decide), ?_⟩
    exact p86 S3 R3 L3 (upd (upd (upd (fc 0) 0 (nI (fcS s wv).1)) 1 ((fcS s wv).2.1 8 - s.1 8)) 2 ((fcS s wv).2.1 9 - s.1 9)) (by rw [upd_o (by decide), upd_o (by decide), upd_i, r0]) (by rw [upd_o (by decide), upd_i, r1]) (by rw [upd_i, r2])
  have p21 : ∀ (S2 : Nat → Int32) (R2 : Nat → Nat → Int32) (L2 : Nat → Int32), CS T (wayS s wv) S2 R2 L2 → X 21 [some (.ref 0), some (.int wv), none] [] (p5 sc s S R L ((wayS s wv).1, nI s.2.1.length, S2, R2, L2) f fc len B c rest) (mc, ms) := by
    intro S2 R2 L2 hC2
    refine go hX (fun pc => if pc = 37 then some 3 else none) 60 ?_
    refine ⟨v0, 27, hf, ?_⟩
    refine Tr.ap eT pT (c_passUntil (s := wayS s wv) (S := S2) (R := R2) (L := L2) (inv_way hI hw3) hT hC2 (fun R3 L3 hC3 => ?_)) rfl rfl rfl rfl
    exact p37 S2 R3 L3
  have p11 : ∀ (S2 : Nat → Int32) (R2 : Nat → Nat → Int32) (L2 : Nat → Int32), CS T s S2 R2 L2 → X 11 [some (.ref 0), some (.int wv), none] [] (p5 sc s S R L (s.1, nI s.2.1.length, S2, R2, L2) f fc len B c rest) (mc, ms) := by
    intro S2 R2 L2 hC2
    refine go hX (fun pc => if pc = 21 then some 3 else none) 60 ?_
    refine ⟨in_lit (by decide), ?_⟩
    exact p21 (upd S2 0 wv) R2 L2 (cs_way hC2)
  refine go hX (fun pc => if pc = 11 then some 3 else none) 40 ?_
  refine Tr.ap eTS pTS (c_scopy (u := tw.1) (n := tw.2.1) (S := tw.2.2.1) (R := tw.2.2.2.1) (L := tw.2.2.2.2) (u1 := s.1) (n1 := nI s.2.1.length) (S1 := S) (R1 := R) (L1 := L) hI.r01 (fun S2 R2 L2 a1 a2 a3 => ?_)) rfl rfl rfl rfl
  exact p11 S2 R2 L2 (cs_copy hC hI.2.1 a1 a2 a3)
set_option maxRecDepth 20000 in
theorem p_forecast_1 {wv : Int32} (hw : wv = nI 1) (hI : Inv T s) (hT : T + 12 < 2 ^ 31) (hC : CS T s S R L) (hQ : ∀ tw1 row, (∀ i, i < 6 → row i = frc s wv i) → Q (.inl none) (p5 sc s S R L tw1 f (setR fc 1 row) len B c rest)) : Tr tX9_forecast mc ms [.ref 0, .int wv] (p5 sc s S R L tw f fc len B c rest) Q := by
  have v0 : vp_in wv 4 := by rw [hw]; exact in_nI (by decide) (by decide)
  have hf : fcR wv.toNatClampNeg = some 28 := by rw [hw, nI_c (by decide)]; rfl
  have hw3 : 0 ≤ wv.toInt ∧ wv.toInt ≤ 3 := by rw [hw]; exact nI_03 (by decide)
  obtain ⟨r0, r1, r2, r3, r4, r5⟩ := frc_v s wv
  refine Tr.of sX9_forecast (by decide +kernel) (Nat.le_of_ble_eq_true rfl) fun X hX => ?_
  have p86 : ∀ (S3 : Nat → Int32) (R3 : Nat → Nat → Int32) (L3 row : Nat → Int32), row 0 = frc s wv 0 → row 1 = frc s wv 1 → row 2 = frc s wv 2 → X 86 [some (.ref 0), some (.int wv), some (.ref 28)] [] (p5 sc s S R L ((fcS s wv).2.1, nI (fcS s wv).2.2.1.length, S3, R3, L3) f (setR fc 1 row) len B c rest) (mc, ms) := by
    intro S3 R3 L3 row q0 q1 q2
    refine go hX (fun _ => none) 60 ?_
    refine ⟨in_lit (by decide), in_lit (by decide), in_lit (by decide), in_lit (by decide), ?_⟩
    have := hQ ((fcS s wv).2.1, nI (fcS s wv).2.2.1.length, S3, R3, L3) (upd (upd (upd row 3 ((fcS s wv).2.1 11 - s.1 11)) 4 ((fcS s wv).2.1 18)) 5 (row 2 + (fcS s wv).2.1 10 - s.1 10)) (fun i hi => ?_)
    · exact this
    · match i, hi with
      | 0, _ => rw [upd_o (by decide), upd_o (by decide), upd_o (by decide)]; exact q0
      | 1, _ => rw [upd_o (by decide), upd_o (by decide), upd_o (by decide)]; exact q1
      | 2, _ => rw [upd_o (by decide), upd_o (by decide), upd_o (by decide)]; exact q2
      | 3, _ => rw [upd_o (by decide), upd_o (by decide), upd_i, r3]
      | 4, _ => rw [upd_o (by decide), upd_i, r4]
      | 5, _ => rw [upd_i, r5, q2, r2]
  have p37 : ∀ (S3 : Nat → Int32) (R3 : Nat → Nat → Int32) (L3 : Nat → Int32), X 37 [some (.ref 0), some (.int wv), some (.ref 28)] [.int (nI (fcS s wv).1), .int 0, .ref 28] (p5 sc s S R L ((fcS s wv).2.1, nI (fcS s wv).2.2.1.length, S3, R3, L3) f fc len B c rest) (mc, ms) := by
    intro S3 R3 L3
    refine go hX (fun pc => if pc = 86 then some 3 else none) 60 ?_
    refine ⟨in_lit (by decide), in_lit (by decide), in_lit (by decide), ?_⟩
    exact p86 S3 R3 L3 (upd (upd (upd (fc 1) 0 (nI (fcS s wv).1)) 1 ((fcS s wv).2.1 8 - s.1 8)) 2 ((fcS s wv).2.1 9 - s.1 9)) (by rw [upd_o (by decide), upd_o (by decide), upd_i, r0]) (by rw [upd_o (by decide), upd_i, r1]) (by rw [upd_i, r2])
  have p21 : ∀ (S2 : Nat → Int32) (R2 : Nat → Nat → Int32) (L2 : Nat → Int32), CS T (wayS s wv) S2 R2 L2 → X 21 [some (.ref 0), some (.int wv), none] [] (p5 sc s S R L ((wayS s wv).1, nI s.2.1.length, S2, R2, L2) f fc len B c rest) (mc, ms) := by
    intro S2 R2 L2 hC2
    refine go hX (fun pc => if pc = 37 then some 3 else none) 60 ?_
    refine ⟨v0, 28, hf, ?_⟩
    refine Tr.ap eT pT (c_passUntil (s := wayS s wv) (S := S2) (R := R2) (L := L2) (inv_way hI hw3) hT hC2 (fun R3 L3 hC3 => ?_)) rfl rfl rfl rfl
    exact p37 S2 R3 L3
  have p11 : ∀ (S2 : Nat → Int32) (R2 : Nat → Nat → Int32) (L2 : Nat → Int32), CS T s S2 R2 L2 → X 11 [some (.ref 0), some (.int wv), none] [] (p5 sc s S R L (s.1, nI s.2.1.length, S2, R2, L2) f fc len B c rest) (mc, ms) := by
    intro S2 R2 L2 hC2
    refine go hX (fun pc => if pc = 21 then some 3 else none) 60 ?_
    refine ⟨in_lit (by decide), ?_⟩
    exact p21 (upd S2 0 wv) R2 L2 (cs_way hC2)
  refine go hX (fun pc => if pc = 11 then some 3 else none) 40 ?_
  refine Tr.ap eTS pTS (c_scopy (u := tw.1) (n := tw.2.1) (S := tw.2.2.1) (R := tw.2.2.2.1) (L := tw.2.2.2.2) (u1 := s.1) (n1 := nI s.2.1.length) (S1 := S) (R1 := R) (L1 := L) hI.r01 (fun S2 R2 L2 a1 a2 a3 => ?_)) rfl rfl rfl rfl
  exact p11 S2 R2 L2 (cs_copy hC hI.2.1 a1 a2 a3)
set_option maxRecDepth 20000 in
theorem p_forecast_2 {wv : Int32} (hw : wv = nI 2) (hI : Inv T s) (hT : T + 12 < 2 ^ 31) (hC : CS T s S R L) (hQ : ∀ tw1 row, (∀ i, i < 6 → row i = frc s wv i) → Q (.inl none) (p5 sc s S R L tw1 f (setR fc 2 row) len B c rest)) : Tr tX9_forecast mc ms [.ref 0, .int wv] (p5 sc s S R L tw f fc len B c rest) Q := by
  have v0 : vp_in wv 4 := by rw [hw]; exact in_nI (by decide) (by decide)
  have hf : fcR wv.toNatClampNeg = some 29 := by rw [hw, nI_c (by decide)]; rfl
  have hw3 : 0 ≤ wv.toInt ∧ wv.toInt ≤ 3 := by rw [hw]; exact nI_03 (by decide)
  obtain ⟨r0, r1, r2, r3, r4, r5⟩ := frc_v s wv
  refine Tr.of sX9_forecast (by decide +kernel) (Nat.le_of_ble_eq_true rfl) fun X hX => ?_
  have p86 : ∀ (S3 : Nat → Int32) (R3 : Nat → Nat → Int32) (L3 row : Nat → Int32), row 0 = frc s wv 0 → row 1 = frc s wv 1 → row 2 = frc s wv 2 → X 86 [some (.ref 0), some (.int wv), some (.ref 29)] [] (p5 sc s S R L ((fcS s wv).2.1, nI (fcS s wv).2.2.1.length, S3, R3, L3) f (setR fc 2 row) len B c rest) (mc, ms) := by
    intro S3 R3 L3 row q0 q1 q2
    refine go hX (fun _ => none) 60 ?_
    refine ⟨in_lit (by decide), in_lit (by decide), in_lit (by decide), in_lit (by decide), ?_⟩
    have := hQ ((fcS s wv).2.1, nI (fcS s wv).2.2.1.length, S3, R3, L3) (upd (upd (upd row 3 ((fcS s wv).2.1 11 - s.1 11)) 4 ((fcS s wv).2.1 18)) 5 (row 2 + (fcS s wv).2.1 10 - s.1 10)) (fun i hi => ?_)
    · exact this
    · match i, hi with
      | 0, _ => rw [upd_o (by decide), upd_o (by decide), upd_o (by decide)]; exact q0
      | 1, _ => rw [upd_o (by decide), upd_o (by decide), upd_o (by decide)]; exact q1
      | 2, _ => rw [upd_o (by decide), upd_o (by decide), upd_o (by decide)]; exact q2
      | 3, _ => rw [upd_o (by decide), upd_o (by decide), upd_i, r3]
      | 4, _ => rw [upd_o (by decide), upd_i, r4]
      | 5, _ => rw [upd_i, r5, q2, r2]
  have p37 : ∀ (S3 : Nat → Int32) (R3 : Nat → Nat → Int32) (L3 : Nat → Int32), X 37 [some (.ref 0), some (.int wv), some (.ref 29)] [.int (nI (fcS s wv).1), .int 0, .ref 29] (p5 sc s S R L ((fcS s wv).2.1, nI (fcS s wv).2.2.1.length, S3, R3, L3) f fc len B c rest) (mc, ms) := by
    intro S3 R3 L3
    refine go hX (fun pc => if pc = 86 then some 3 else none) 60 ?_
    refine ⟨in_lit (by decide), in_lit (by decide), in_lit (by decide), ?_⟩
    exact p86 S3 R3 L3 (upd (upd (upd (fc 2) 0 (nI (fcS s wv).1)) 1 ((fcS s wv).2.1 8 - s.1 8)) 2 ((fcS s wv).2.1 9 - s.1 9)) (by rw [upd_o (by decide), upd_o (by decide), upd_i, r0]) (by rw [upd_o (by decide), upd_i, r1]) (by rw [upd_i, r2])
  have p21 : ∀ (S2 : Nat → Int32) (R2 : Nat → Nat → Int32) (L2 : Nat → Int32), CS T (wayS s wv) S2 R2 L2 → X 21 [some (.ref 0), some (.int wv), none] [] (p5 sc s S R L ((wayS s wv).1, nI s.2.1.length, S2, R2, L2) f fc len B c rest) (mc, ms) := by
    intro S2 R2 L2 hC2
    refine go hX (fun pc => if pc = 37 then some 3 else none) 60 ?_
    refine ⟨v0, 29, hf, ?_⟩
    refine Tr.ap eT pT (c_passUntil (s := wayS s wv) (S := S2) (R := R2) (L := L2) (inv_way hI hw3) hT hC2 (fun R3 L3 hC3 => ?_)) rfl rfl rfl rfl
    exact p37 S2 R3 L3
  have p11 : ∀ (S2 : Nat → Int32) (R2 : Nat → Nat → Int32) (L2 : Nat → Int32), CS T s S2 R2 L2 → X 11 [some (.ref 0), some (.int wv), none] [] (p5 sc s S R L (s.1, nI s.2.1.length, S2, R2, L2) f fc len B c rest) (mc, ms) := by
    intro S2 R2 L2 hC2
    refine go hX (fun pc => if pc = 21 then some 3 else none) 60 ?_
    refine ⟨in_lit (by decide), ?_⟩
    exact p21 (upd S2 0 wv) R2 L2 (cs_way hC2)
  refine go hX (fun pc => if pc = 11 then some 3 else none) 40 ?_
  refine Tr.ap eTS pTS (c_scopy (u := tw.1) (n := tw.2.1) (S := tw.2.2.1) (R := tw.2.2.2.1) (L := tw.2.2.2.2) (u1 := s.1) (n1 := nI s.2.1.length) (S1 := S) (R1 := R) (L1 := L) hI.r01 (fun S2 R2 L2 a1 a2 a3 => ?_)) rfl rfl rfl rfl
  exact p11 S2 R2 L2 (cs_copy hC hI.2.1 a1 a2 a3)
set_option maxRecDepth 20000 in
theorem p_forecast_3 {wv : Int32} (hw : wv = nI 3) (hI : Inv T s) (hT : T + 12 < 2 ^ 31) (hC : CS T s S R L) (hQ : ∀ tw1 row, (∀ i, i < 6 → row i = frc s wv i) → Q (.inl none) (p5 sc s S R L tw1 f (setR fc 3 row) len B c rest)) : Tr tX9_forecast mc ms [.ref 0, .int wv] (p5 sc s S R L tw f fc len B c rest) Q := by
  have v0 : vp_in wv 4 := by rw [hw]; exact in_nI (by decide) (by decide)
  have hf : fcR wv.toNatClampNeg = some 30 := by rw [hw, nI_c (by decide)]; rfl
  have hw3 : 0 ≤ wv.toInt ∧ wv.toInt ≤ 3 := by rw [hw]; exact nI_03 (by decide)
  obtain ⟨r0, r1, r2, r3, r4, r5⟩ := frc_v s wv
  refine Tr.of sX9_forecast (by decide +kernel) (Nat.le_of_ble_eq_true rfl) fun X hX => ?_
  have p86 : ∀ (S3 : Nat → Int32) (R3 : Nat → Nat → Int32) (L3 row : Nat → Int32), row 0 = frc s wv 0 → row 1 = frc s wv 1 → row 2 = frc s wv 2 → X 86 [some (.ref 0), some (.int wv), some (.ref 30)] [] (p5 sc s S R L ((fcS s wv).2.1, nI (fcS s wv).2.2.1.length, S3, R3, L3) f (setR fc 3 row) len B c rest) (mc, ms) := by
    intro S3 R3 L3 row q0 q1 q2
    refine go hX (fun _ => none) 60 ?_
    refine ⟨in_lit (by decide), in_lit (by decide), in_lit (by decide), in_lit (by decide), ?_⟩
    have := hQ ((fcS s wv).2.1, nI (fcS s wv).2.2.1.length, S3, R3, L3) (upd (upd (upd row 3 ((fcS s wv).2.1 11 - s.1 11)) 4 ((fcS s wv).2.1 18)) 5 (row 2 + (fcS s wv).2.1 10 - s.1 10)) (fun i hi => ?_)
    · exact this
    · match i, hi with
      | 0, _ => rw [upd_o (by decide), upd_o (by decide), upd_o (by decide)]; exact q0
      | 1, _ => rw [upd_o (by decide), upd_o (by decide), upd_o (by decide)]; exact q1
      | 2, _ => rw [upd_o (by decide), upd_o (by decide), upd_o (by decide)]; exact q2
      | 3, _ => rw [upd_o (by decide), upd_o (by decide), upd_i, r3]
      | 4, _ => rw [upd_o (by decide), upd_i, r4]
      | 5, _ => rw [upd_i, r5, q2, r2]
  have p37 : ∀ (S3 : Nat → Int32) (R3 : Nat → Nat → Int32) (L3 : Nat → Int32), X 37 [some (.ref 0), some (.int wv), some (.ref 30)] [.int (nI (fcS s wv).1), .int 0, .ref 30] (p5 sc s S R L ((fcS s wv).2.1, nI (fcS s wv).2.2.1.length, S3, R3, L3) f fc len B c rest) (mc, ms) := by
    intro S3 R3 L3
    refine go hX (fun pc => if pc = 86 then some 3 else none) 60 ?_
    refine ⟨in_lit (by decide), in_lit (by decide), in_lit (by decide), ?_⟩
    exact p86 S3 R3 L3 (upd (upd (upd (fc 3) 0 (nI (fcS s wv).1)) 1 ((fcS s wv).2.1 8 - s.1 8)) 2 ((fcS s wv).2.1 9 - s.1 9)) (by rw [upd_o (by decide), upd_o (by decide), upd_i, r0]) (by rw [upd_o (by decide), upd_i, r1]) (by rw [upd_i, r2])
  have p21 : ∀ (S2 : Nat → Int32) (R2 : Nat → Nat → Int32) (L2 : Nat → Int32), CS T (wayS s wv) S2 R2 L2 → X 21 [some (.ref 0), some (.int wv), none] [] (p5 sc s S R L ((wayS s wv).1, nI s.2.1.length, S2, R2, L2) f fc len B c rest) (mc, ms) := by
    intro S2 R2 L2 hC2
    refine go hX (fun pc => if pc = 37 then some 3 else none) 60 ?_
    refine ⟨v0, 30, hf, ?_⟩
    refine Tr.ap eT pT (c_passUntil (s := wayS s wv) (S := S2) (R := R2) (L := L2) (inv_way hI hw3) hT hC2 (fun R3 L3 hC3 => ?_)) rfl rfl rfl rfl
    exact p37 S2 R3 L3
  have p11 : ∀ (S2 : Nat → Int32) (R2 : Nat → Nat → Int32) (L2 : Nat → Int32), CS T s S2 R2 L2 → X 11 [some (.ref 0), some (.int wv), none] [] (p5 sc s S R L (s.1, nI s.2.1.length, S2, R2, L2) f fc len B c rest) (mc, ms) := by
    intro S2 R2 L2 hC2
    refine go hX (fun pc => if pc = 21 then some 3 else none) 60 ?_
    refine ⟨in_lit (by decide), ?_⟩
    exact p21 (upd S2 0 wv) R2 L2 (cs_way hC2)
  refine go hX (fun pc => if pc = 11 then some 3 else none) 40 ?_
  refine Tr.ap eTS pTS (c_scopy (u := tw.1) (n := tw.2.1) (S := tw.2.2.1) (R := tw.2.2.2.1) (L := tw.2.2.2.2) (u1 := s.1) (n1 := nI s.2.1.length) (S1 := S) (R1 := R) (L1 := L) hI.r01 (fun S2 R2 L2 a1 a2 a3 => ?_)) rfl rfl rfl rfl
  exact p11 S2 R2 L2 (cs_copy hC hI.2.1 a1 a2 a3)
theorem p_forecast {wv : Int32} {j : Nat} (hj : j < 4) (hw : wv = nI j) (hI : Inv T s) (hT : T + 12 < 2 ^ 31) (hC : CS T s S R L) (hQ : ∀ tw1 row, (∀ i, i < 6 → row i = frc s wv i) → Q (.inl none) (p5 sc s S R L tw1 f (setR fc j row) len B c rest)) : Tr tX9_forecast mc ms [.ref 0, .int wv] (p5 sc s S R L tw f fc len B c rest) Q := by
  match j, hj with
  | 0, _ => exact p_forecast_0 hw hI hT hC hQ
  | 1, _ => exact p_forecast_1 hw hI hT hC hQ
  | 2, _ => exact p_forecast_2 hw hI hT hC hQ
  | 3, _ => exact p_forecast_3 hw hI hT hC hQ
def FcOk (s : Sg) (fc : Nat → Nat → Int32) (m : Nat) : Prop := ∀ k, k < m → ∀ i, i < 6 → fc k i = frc s (nI k) i
set_option maxRecDepth 20000 in
theorem p_forecastAll (hI : Inv T s) (hT : T + 12 < 2 ^ 31) (hC : CS T s S R L) (hQ : ∀ tw1 fc1, FcOk s fc1 4 → Q (.inl none) (p5 sc s S R L tw1 f fc1 len B c rest)) : Tr tX9_forecastAll mc ms [.ref 0] (p5 sc s S R L tw f fc len B c rest) Q := by
  refine Tr.of sX9_forecastAll (by decide +kernel) (Nat.le_of_ble_eq_true rfl) fun X hX => ?_
  have key : ∀ (d i : Nat) (iv : Int32) (tw1 : Wd) (fc1 : Nat → Nat → Int32), i + d = 4 → iv = nI i → FcOk s fc1 i → X 2 [some (.ref 0), some (.int iv)] [] (p5 sc s S R L tw1 f fc1 len B c rest) (mc, ms) := by
    intro d
    induction d with
    | zero =>
      intro i iv tw1 fc1 hi hiv hF
      refine go hX (fun _ => none) 40 ?_
      refine And.intro (fun _ => hQ tw1 fc1 (by rw [show 4 = i by omega]; exact hF)) (fun z => absurd (by rw [hiv, show i = 4 by omega]; exact Int32.le_refl _) z)
    | succ d ih =>
      intro i iv tw1 fc1 hi hiv hF
      refine go hX (fun pc => if pc = 2 then some 2 else none) 40 ?_
      refine And.intro (fun z => absurd z (by rw [hiv]; exact nI_ge (b := 4) (by omega) (by decide))) (fun _ => ?_)
      refine p_forecast (j := i) (by omega) hiv hI hT hC (fun tw2 row hrow => ?_)
      refine ih (i + 1) (iv + 1) tw2 (setR fc1 i row) (by omega) (by rw [hiv]; exact nI_1 i) (fun k hk x hx => ?_)
      unfold setR
      by_cases hki : k = i
      · rw [if_pos hki, hki, ← hiv]
        exact hrow x hx
      · rw [if_neg hki]
        exact hF k (by omega) x hx
  refine go hX (fun pc => if pc = 2 then some 2 else none) 40 ?_
  exact key 4 0 0 tw fc (by decide) rfl (fun k hk => absurd hk (Nat.not_lt_zero _))
/-! how many are missed -/
theorem ring_a (a b c d e : Int32) (h : a + b = c + d + e) : a - c + b - d = e := by
  have h2 : a + b - (c + d) = e := by rw [h, Int32.add_comm (c + d) e]; exact Int32.add_sub_cancel _ _
  rw [← h2]
  grind
def misS (u : Nat → Int32) : Int32 := u 9 + u 10
theorem rds_9 (u : Nat → Int32) : ∀ (hs : List Rq) (a : (Nat → Int32) × List Rq), ∃ m : Nat, m ≤ hs.length ∧ (hs.foldl (rdS u) a).1 9 = a.1 9 + nI m
  | [], a => ⟨0, Nat.le_refl _, by rw [nI_0, Int32.add_zero]; rfl⟩
  | r :: hs, a => by
    obtain ⟨m, h1, h2⟩ := rds_9 u hs (rdS u a r)
    rw [List.foldl_cons, h2]
    have e : (rdS u a r).1 9 = a.1 9 + lateS u r := rfl
    rw [e]
    by_cases hl : r.2.2.2.1 < u 6
    · refine ⟨m + 1, by rw [List.length_cons]; omega, ?_⟩
      have e1 : lateS u r = 1 := if_pos hl
      rw [e1, Int32.add_assoc, Int32.add_comm 1, nI_succ]
    · refine ⟨m, by rw [List.length_cons]; omega, ?_⟩
      have e1 : lateS u r = 0 := if_neg hl
      rw [e1, Int32.add_zero]
theorem mis_read (s : Sg) : ∃ m : Nat, m + (readS s).2.1.length ≤ s.2.1.length ∧ misS (readS s).1 = misS s.1 + nI m := by
  obtain ⟨m, h1, h2⟩ := rds_9 s.1 (s.2.1.filter (hitS s.1)) (s.1, s.2.2)
  have h3 : (readS s).1 10 = s.1 10 := rds_u s.1 (by decide) (by decide) _ _
  have h4 := len_filter2 (hitS s.1) s.2.1
  refine ⟨m, ?_, ?_⟩
  · show m + (s.2.1.filter (fun r => !hitS s.1 r)).length ≤ _
    omega
  · unfold misS
    rw [h3, show (readS s).1 9 = s.1 9 + nI m from h2]
    grind
theorem mis_give (s : Sg) : ∃ m : Nat, m + (giveS s).2.1.length ≤ s.2.1.length ∧ misS (giveS s).1 = misS s.1 + nI m := by
  have h4 := len_filter2 (goneS s.1) s.2.1
  refine ⟨s.2.1.countP (goneS s.1), ?_, ?_⟩
  · show _ + (s.2.1.filter (fun r => !goneS s.1 r)).length ≤ _
    rw [List.countP_eq_length_filter]
    omega
  · show s.1 9 + (s.1 10 + nI _) = s.1 9 + s.1 10 + nI _
    rw [Int32.add_assoc]
theorem mis_bgn (s : Sg) : ∃ m : Nat, m + (bgnS s).2.1.length ≤ s.2.1.length ∧ misS (bgnS s).1 = misS s.1 + nI m := by
  unfold bgnS bgnA
  have e : ∀ sw, misS (aimU s.1 sw) = misS s.1 := fun _ => rfl
  split
  · split
    · obtain ⟨m, h1, h2⟩ := mis_read (aimU s.1 (aimS s.1 s.2.1).2, s.2)
      exact ⟨m, h1, h2⟩
    · split
      · exact ⟨0, by rw [Nat.zero_add]; exact Nat.le_refl _, by rw [nI_0, Int32.add_zero]; rfl⟩
      · obtain ⟨m, h1, h2⟩ := mis_read (aimU s.1 (aimS s.1 s.2.1).2, s.2)
        exact ⟨m, h1, h2⟩
  · refine ⟨0, by rw [Nat.zero_add]; exact Nat.le_refl _, ?_⟩
    rw [nI_0, Int32.add_zero]
    show moveU (aimU s.1 (aimS s.1 s.2.1).2) _ 9 + moveU (aimU s.1 (aimS s.1 s.2.1).2) _ 10 = _
    rw [moveU_k (by decide) (by decide) (by decide) (by decide) (by decide), moveU_k (by decide) (by decide) (by decide) (by decide) (by decide)]
    rfl
theorem mis_last (u : Nat → Int32) : misS (lastU u) = misS u := by
  unfold misS
  rw [last_k (by decide) (by decide) (by decide) (by decide), last_k (by decide) (by decide) (by decide) (by decide)]
theorem mis_end (s : Sg) : ∃ m : Nat, m + (endS s).2.1.length ≤ s.2.1.length ∧ misS (endS s).1 = misS s.1 + nI m := by
  unfold endS
  split
  · exact ⟨0, by rw [Nat.zero_add]; exact Nat.le_refl _, by rw [nI_0, Int32.add_zero, mis_last]⟩
  · obtain ⟨m, h1, h2⟩ := mis_give s
    exact ⟨m, h1, by rw [mis_last]; exact h2⟩
theorem mis_tick (s : Sg) : ∃ m : Nat, m + (tickS s).2.1.length ≤ s.2.1.length ∧ misS (tickS s).1 = misS s.1 + nI m := by
  obtain ⟨m1, a1, a2⟩ := mis_bgn s
  obtain ⟨m2, b1, b2⟩ := mis_end (bgnS s)
  refine ⟨m1 + m2, ?_, ?_⟩
  · show m1 + m2 + (endS (bgnS s)).2.1.length ≤ _
    omega
  · show misS (endS (bgnS s)).1 = _
    rw [b2, a2, ← nI_add, Int32.add_assoc]
theorem mis_run : ∀ (d : Nat) (s : Sg), ∃ m : Nat, m + (runS d s).2.2.1.length ≤ s.2.1.length ∧ misS (runS d s).2.1 = misS s.1 + nI m
  | 0, s => ⟨0, by rw [Nat.zero_add]; exact Nat.le_refl _, by rw [nI_0, Int32.add_zero]; rfl⟩
  | d + 1, s => by
    unfold runS
    split
    · exact ⟨0, by rw [Nat.zero_add]; exact Nat.le_refl _, by rw [nI_0, Int32.add_zero]⟩
    · obtain ⟨m1, a1, a2⟩ := mis_tick s
      obtain ⟨m2, b1, b2⟩ := mis_run d (tickS s)
      exact ⟨m1 + m2, by show m1 + m2 + (runS d (tickS s)).2.2.1.length ≤ _; omega, by show misS (runS d (tickS s)).2.1 = _; rw [b2, a2, ← nI_add, Int32.add_assoc]⟩
theorem val5 (hI : Inv T s) (way : Int32) : ∃ m t : Nat, m ≤ 12 ∧ t ≤ 500 ∧ frc s way 5 = nI m ∧ frc s way 0 = nI t ∧ valV s way 5 = nI (1000 * m + t) := by
  obtain ⟨m, h1, h2⟩ := mis_run 500 (wayS s way)
  have h3 := run_le 500 (wayS s way)
  obtain ⟨r0, -, -, -, -, r5⟩ := frc_v s way
  have hm := hI.2.1
  have h1' : m + (fcS s way).2.2.1.length ≤ s.2.1.length := h1
  have e5 : (fcS s way).2.1 9 - s.1 9 + (fcS s way).2.1 10 - s.1 10 = nI m := ring_a _ _ _ _ _ h2
  refine ⟨m, (fcS s way).1, by omega, h3, r5.trans e5, r0, ?_⟩
  unfold valV
  rw [if_neg (by decide), if_neg (by decide), if_neg (by decide), if_neg (by decide), if_neg (by decide), e5, show (1000 : Int32) = nI 1000 from rfl, mul_nI, nI_add]
set_option maxRecDepth 20000 in
theorem p_bestF (hI : Inv T s) (hF : FcOk s fc 4) (hQ : Q (.inl (some (.int (nI (bestM s 4))))) (p5 sc s S R L tw f fc len B c rest)) : Tr tX9_bestForecast mc ms [.ref 0] (p5 sc s S R L tw f fc len B c rest) Q := by
  refine Tr.of sX9_bestForecast (by decide +kernel) (Nat.le_of_ble_eq_true rfl) fun X hX => ?_
  have cmp : ∀ w b : Nat, w < 4 → b < 4 → ∃ mw tw1 mb tb : Nat, mw ≤ 12 ∧ tw1 ≤ 500 ∧ mb ≤ 12 ∧ tb ≤ 500 ∧ fc w 5 = nI mw ∧ fc w 0 = nI tw1 ∧ fc b 5 = nI mb ∧ fc b 0 = nI tb ∧ (valV s (nI b) 5 ≤ valV s (nI w) 5 ↔ 1000 * mb + tb ≤ 1000 * mw + tw1) := by
    intro w b hw hb
    obtain ⟨mw, tw1, a1, a2, a3, a4, a5⟩ := val5 hI (nI w)
    obtain ⟨mb, tb, b1, b2, b3, b4, b5⟩ := val5 hI (nI b)
    exact ⟨mw, tw1, mb, tb, a1, a2, b1, b2, (hF w hw 5 (by decide)).trans a3, (hF w hw 0 (by decide)).trans a4, (hF b hb 5 (by decide)).trans b3, (hF b hb 0 (by decide)).trans b4, by rw [a5, b5]; exact nI_leI (by omega) (by omega)⟩
  have p4 : X 4 [some (.ref 0), some (.int (nI (bestM s 4))), some (.int 4), none] [] (p5 sc s S R L tw f fc len B c rest) (mc, ms) := by
    refine go hX (fun _ => none) 40 ?_
    exact And.intro (fun _ => hQ) (fun z => absurd (by decide) z)
  have s32 : (∀ b1, bestM s 4 = b1 → X 4 [some (.ref 0), some (.int (nI b1)), some (.int 4), none] [] (p5 sc s S R L tw f fc len B c rest) (mc, ms)) → bestM s 3 = 2 → ∀ x, X 4 [some (.ref 0), some (.int (nI 2)), some (.int 3), x] [] (p5 sc s S R L tw f fc len B c rest) (mc, ms) := by
    intro hn hb x
    obtain ⟨mw, tw1, mb, tb, c1, c2, c3, c4, c5, c6, c7, c8, c9⟩ := cmp 3 2 (by decide) (by decide)
    have eM : bestM s 4 = if valV s (nI (bestM s 3)) 5 ≤ valV s (nI 3) 5 then bestM s 3 else 3 := rfl
    rw [hb] at eM
    have keep : valV s (nI 2) 5 ≤ valV s (nI 3) 5 → ∀ y, X 59 [some (.ref 0), some (.int (nI 2)), some (.int 3), y] [] (p5 sc s S R L tw f fc len B c rest) (mc, ms) := by
      intro hv y
      refine go hX (fun pc => if pc = 4 then some 3 else none) 40 ?_
      exact hX.2 _ _ _ _ _ _ (fun i v hi => by
        match i, hi with
        | 0, hi => exact hi
        | 1, hi => exact hi
        | 2, hi => exact hi
        | 3, hi => cases hi
        | k + 4, hi => cases hi) (hn 2 (eM.trans (if_pos hv)))
    have take : ¬ valV s (nI 2) 5 ≤ valV s (nI 3) 5 → ∀ y, X 57 [some (.ref 0), some (.int (nI 2)), some (.int 3), y] [] (p5 sc s S R L tw f fc len B c rest) (mc, ms) := by
      intro hv y
      refine go hX (fun pc => if pc = 4 then some 3 else none) 40 ?_
      exact hX.2 _ _ _ _ _ _ (fun i v hi => by
        match i, hi with
        | 0, hi => exact hi
        | 1, hi => exact hi
        | 2, hi => exact hi
        | 3, hi => cases hi
        | k + 4, hi => cases hi) (hn 3 (eM.trans (if_neg hv)))
    have p53 : ∀ z : Int32, (z < 0 ↔ ¬ valV s (nI 2) 5 ≤ valV s (nI 3) 5) → X 53 [some (.ref 0), some (.int (nI 2)), some (.int 3), some (.int z)] [] (p5 sc s S R L tw f fc len B c rest) (mc, ms) := by
      intro z hz
      refine go hX (fun pc => if pc = 57 then some 4 else if pc = 59 then some 4 else none) 40 ?_
      refine And.intro (fun y => ?_) (fun y => ?_)
      · exact keep (Classical.byContradiction (fun q => Int32.not_lt.mpr y (hz.mpr q))) _
      · exact take (hz.mp (Int32.not_le.mp y)) _
    have p33 : mw = mb → X 33 [some (.ref 0), some (.int (nI 2)), some (.int 3), some (.int 0)] [] (p5 sc s S R L tw f fc len B c rest) (mc, ms) := by
      intro hmm
      refine go hX (fun pc => if pc = 53 then some 4 else none) 40 ?_
      refine ⟨in_lit (by decide), 30, rfl, in_lit (by decide), in_lit (by decide), 29, rfl, in_lit (by decide), ?_⟩
      refine j_compare ?_
      refine p53 _ ?_
      rw [show fc 3 (0 : Int32).toNatClampNeg = nI tw1 from c6, show fc 2 (0 : Int32).toNatClampNeg = nI tb from c8, c9]
      by_cases h1 : nI tb ≤ nI tw1
      · have h1' := (nI_leI (by omega) (by omega)).mp h1
        rw [if_pos h1]
        refine ⟨fun z => absurd z ?_, fun z => absurd (by omega) z⟩
        split <;> decide
      · have h1' : ¬ tb ≤ tw1 := fun y => h1 (nI_le y (by omega))
        rw [if_neg h1]
        exact ⟨fun _ => by omega, fun _ => by decide⟩
    refine go hX (fun pc => if pc = 33 then some 4 else if pc = 53 then some 4 else none) 40 ?_
    refine And.intro (fun z => absurd z (by decide)) (fun _ => ?_)
    refine ⟨in_lit (by decide), 30, rfl, in_lit (by decide), in_lit (by decide), 29, rfl, in_lit (by decide), ?_⟩
    refine j_compare ?_
    rw [show fc 3 (5 : Int32).toNatClampNeg = nI mw from c5, show fc 2 (5 : Int32).toNatClampNeg = nI mb from c7]
    by_cases h1 : nI mb ≤ nI mw
    · have h1' := (nI_leI (by omega) (by omega)).mp h1
      rw [if_pos h1]
      by_cases h2 : nI mw = nI mb
      · rw [if_pos h2]
        exact And.intro (fun z => absurd rfl z) (fun _ => p33 ((nI_eq (by omega) (by omega)).mp h2))
      · rw [if_neg h2]
        have h2' : ¬ mw = mb := fun y => h2 (by rw [y])
        exact And.intro (fun _ => p53 1 ⟨fun z => absurd z (by decide), fun z => absurd (c9.mpr (by omega)) z⟩) (fun z => absurd z (by decide))
    · have h1' : ¬ mb ≤ mw := fun y => h1 (nI_le y (by omega))
      rw [if_neg h1]
      exact And.intro (fun _ => p53 (-1) ⟨fun _ => fun z => by have := c9.mp z; omega, fun _ => by decide⟩) (fun z => absurd z (by decide))
  have s31 : (∀ b1, bestM s 4 = b1 → X 4 [some (.ref 0), some (.int (nI b1)), some (.int 4), none] [] (p5 sc s S R L tw f fc len B c rest) (mc, ms)) → bestM s 3 = 1 → ∀ x, X 4 [some (.ref 0), some (.int (nI 1)), some (.int 3), x] [] (p5 sc s S R L tw f fc len B c rest) (mc, ms) := by
    intro hn hb x
    obtain ⟨mw, tw1, mb, tb, c1, c2, c3, c4, c5, c6, c7, c8, c9⟩ := cmp 3 1 (by decide) (by decide)
    have eM : bestM s 4 = if valV s (nI (bestM s 3)) 5 ≤ valV s (nI 3) 5 then bestM s 3 else 3 := rfl
    rw [hb] at eM
    have keep : valV s (nI 1) 5 ≤ valV s (nI 3) 5 → ∀ y, X 59 [some (.ref 0), some (.int (nI 1)), some (.int 3), y] [] (p5 sc s S R L tw f fc len B c rest) (mc, ms) := by
      intro hv y
      refine go hX (fun pc => if pc = 4 then some 3 else none) 40 ?_
      exact hX.2 _ _ _ _ _ _ (fun i v hi => by
        match i, hi with
        | 0, hi => exact hi
        | 1, hi => exact hi
        | 2, hi => exact hi
        | 3, hi => cases hi
        | k + 4, hi => cases hi) (hn 1 (eM.trans (if_pos hv)))
    have take : ¬ valV s (nI 1) 5 ≤ valV s (nI 3) 5 → ∀ y, X 57 [some (.ref 0), some (.int (nI 1)), some (.int 3), y] [] (p5 sc s S R L tw f fc len B c rest) (mc, ms) := by
      intro hv y
      refine go hX (fun pc => if pc = 4 then some 3 else none) 40 ?_
      exact hX.2 _ _ _ _ _ _ (fun i v hi => by
        match i, hi with
        | 0, hi => exact hi
        | 1, hi => exact hi
        | 2, hi => exact hi
        | 3, hi => cases hi
        | k + 4, hi => cases hi) (hn 3 (eM.trans (if_neg hv)))
    have p53 : ∀ z : Int32, (z < 0 ↔ ¬ valV s (nI 1) 5 ≤ valV s (nI 3) 5) → X 53 [some (.ref 0), some (.int (nI 1)), some (.int 3), some (.int z)] [] (p5 sc s S R L tw f fc len B c rest) (mc, ms) := by
      intro z hz
      refine go hX (fun pc => if pc = 57 then some 4 else if pc = 59 then some 4 else none) 40 ?_
      refine And.intro (fun y => ?_) (fun y => ?_)
      · exact keep (Classical.byContradiction (fun q => Int32.not_lt.mpr y (hz.mpr q))) _
      · exact take (hz.mp (Int32.not_le.mp y)) _
    have p33 : mw = mb → X 33 [some (.ref 0), some (.int (nI 1)), some (.int 3), some (.int 0)] [] (p5 sc s S R L tw f fc len B c rest) (mc, ms) := by
      intro hmm
      refine go hX (fun pc => if pc = 53 then some 4 else none) 40 ?_
      refine ⟨in_lit (by decide), 30, rfl, in_lit (by decide), in_lit (by decide), 28, rfl, in_lit (by decide), ?_⟩
      refine j_compare ?_
      refine p53 _ ?_
      rw [show fc 3 (0 : Int32).toNatClampNeg = nI tw1 from c6, show fc 1 (0 : Int32).toNatClampNeg = nI tb from c8, c9]
      by_cases h1 : nI tb ≤ nI tw1
      · have h1' := (nI_leI (by omega) (by omega)).mp h1
        rw [if_pos h1]
        refine ⟨fun z => absurd z ?_, fun z => absurd (by omega) z⟩
        split <;> decide
      · have h1' : ¬ tb ≤ tw1 := fun y => h1 (nI_le y (by omega))
        rw [if_neg h1]
        exact ⟨fun _ => by omega, fun _ => by decide⟩
    refine go hX (fun pc => if pc = 33 then some 4 else if pc = 53 then some 4 else none) 40 ?_
    refine And.intro (fun z => absurd z (by decide)) (fun _ => ?_)
    refine ⟨in_lit (by decide), 30, rfl, in_lit (by decide), in_lit (by decide), 28, rfl, in_lit (by decide), ?_⟩
    refine j_compare ?_
    rw [show fc 3 (5 : Int32).toNatClampNeg = nI mw from c5, show fc 1 (5 : Int32).toNatClampNeg = nI mb from c7]
    by_cases h1 : nI mb ≤ nI mw
    · have h1' := (nI_leI (by omega) (by omega)).mp h1
      rw [if_pos h1]
      by_cases h2 : nI mw = nI mb
      · rw [if_pos h2]
        exact And.intro (fun z => absurd rfl z) (fun _ => p33 ((nI_eq (by omega) (by omega)).mp h2))
      · rw [if_neg h2]
        have h2' : ¬ mw = mb := fun y => h2 (by rw [y])
        exact And.intro (fun _ => p53 1 ⟨fun z => absurd z (by decide), fun z => absurd (c9.mpr (by omega)) z⟩) (fun z => absurd z (by decide))
    · have h1' : ¬ mb ≤ mw := fun y => h1 (nI_le y (by omega))
      rw [if_neg h1]
      exact And.intro (fun _ => p53 (-1) ⟨fun _ => fun z => by have := c9.mp z; omega, fun _ => by decide⟩) (fun z => absurd z (by decide))
  have s30 : (∀ b1, bestM s 4 = b1 → X 4 [some (.ref 0), some (.int (nI b1)), some (.int 4), none] [] (p5 sc s S R L tw f fc len B c rest) (mc, ms)) → bestM s 3 = 0 → ∀ x, X 4 [some (.ref 0), some (.int (nI 0)), some (.int 3), x] [] (p5 sc s S R L tw f fc len B c rest) (mc, ms) := by
    intro hn hb x
    obtain ⟨mw, tw1, mb, tb, c1, c2, c3, c4, c5, c6, c7, c8, c9⟩ := cmp 3 0 (by decide) (by decide)
    have eM : bestM s 4 = if valV s (nI (bestM s 3)) 5 ≤ valV s (nI 3) 5 then bestM s 3 else 3 := rfl
    rw [hb] at eM
    have keep : valV s (nI 0) 5 ≤ valV s (nI 3) 5 → ∀ y, X 59 [some (.ref 0), some (.int (nI 0)), some (.int 3), y] [] (p5 sc s S R L tw f fc len B c rest) (mc, ms) := by
      intro hv y
      refine go hX (fun pc => if pc = 4 then some 3 else none) 40 ?_
      exact hX.2 _ _ _ _ _ _ (fun i v hi => by
        match i, hi with
        | 0, hi => exact hi
        | 1, hi => exact hi
        | 2, hi => exact hi
        | 3, hi => cases hi
        | k + 4, hi => cases hi) (hn 0 (eM.trans (if_pos hv)))
    have take : ¬ valV s (nI 0) 5 ≤ valV s (nI 3) 5 → ∀ y, X 57 [some (.ref 0), some (.int (nI 0)), some (.int 3), y] [] (p5 sc s S R L tw f fc len B c rest) (mc, ms) := by
      intro hv y
      refine go hX (fun pc => if pc = 4 then some 3 else none) 40 ?_
      exact hX.2 _ _ _ _ _ _ (fun i v hi => by
        match i, hi with
        | 0, hi => exact hi
        | 1, hi => exact hi
        | 2, hi => exact hi
        | 3, hi => cases hi
        | k + 4, hi => cases hi) (hn 3 (eM.trans (if_neg hv)))
    have p53 : ∀ z : Int32, (z < 0 ↔ ¬ valV s (nI 0) 5 ≤ valV s (nI 3) 5) → X 53 [some (.ref 0), some (.int (nI 0)), some (.int 3), some (.int z)] [] (p5 sc s S R L tw f fc len B c rest) (mc, ms) := by
      intro z hz
      refine go hX (fun pc => if pc = 57 then some 4 else if pc = 59 then some 4 else none) 40 ?_
      refine And.intro (fun y => ?_) (fun y => ?_)
      · exact keep (Classical.byContradiction (fun q => Int32.not_lt.mpr y (hz.mpr q))) _
      · exact take (hz.mp (Int32.not_le.mp y)) _
    have p33 : mw = mb → X 33 [some (.ref 0), some (.int (nI 0)), some (.int 3), some (.int 0)] [] (p5 sc s S R L tw f fc len B c rest) (mc, ms) := by
      intro hmm
      refine go hX (fun pc => if pc = 53 then some 4 else none) 40 ?_
      refine ⟨in_lit (by decide), 30, rfl, in_lit (by decide), in_lit (by decide), 27, rfl, in_lit (by decide), ?_⟩
      refine j_compare ?_
      refine p53 _ ?_
      rw [show fc 3 (0 : Int32).toNatClampNeg = nI tw1 from c6, show fc 0 (0 : Int32).toNatClampNeg = nI tb from c8, c9]
      by_cases h1 : nI tb ≤ nI tw1
      · have h1' := (nI_leI (by omega) (by omega)).mp h1
        rw [if_pos h1]
        refine ⟨fun z => absurd z ?_, fun z => absurd (by omega) z⟩
        split <;> decide
      · have h1' : ¬ tb ≤ tw1 := fun y => h1 (nI_le y (by omega))
        rw [if_neg h1]
        exact ⟨fun _ => by omega, fun _ => by decide⟩
    refine go hX (fun pc => if pc = 33 then some 4 else if pc = 53 then some 4 else none) 40 ?_
    refine And.intro (fun z => absurd z (by decide)) (fun _ => ?_)
    refine ⟨in_lit (by decide), 30, rfl, in_lit (by decide), in_lit (by decide), 27, rfl, in_lit (by decide), ?_⟩
    refine j_compare ?_
    rw [show fc 3 (5 : Int32).toNatClampNeg = nI mw from c5, show fc 0 (5 : Int32).toNatClampNeg = nI mb from c7]
    by_cases h1 : nI mb ≤ nI mw
    · have h1' := (nI_leI (by omega) (by omega)).mp h1
      rw [if_pos h1]
      by_cases h2 : nI mw = nI mb
      · rw [if_pos h2]
        exact And.intro (fun z => absurd rfl z) (fun _ => p33 ((nI_eq (by omega) (by omega)).mp h2))
      · rw [if_neg h2]
        have h2' : ¬ mw = mb := fun y => h2 (by rw [y])
        exact And.intro (fun _ => p53 1 ⟨fun z => absurd z (by decide), fun z => absurd (c9.mpr (by omega)) z⟩) (fun z => absurd z (by decide))
    · have h1' : ¬ mb ≤ mw := fun y => h1 (nI_le y (by omega))
      rw [if_neg h1]
      exact And.intro (fun _ => p53 (-1) ⟨fun _ => fun z => by have := c9.mp z; omega, fun _ => by decide⟩) (fun z => absurd z (by decide))
  have s21 : (∀ b1, bestM s 3 = b1 → X 4 [some (.ref 0), some (.int (nI b1)), some (.int 3), none] [] (p5 sc s S R L tw f fc len B c rest) (mc, ms)) → bestM s 2 = 1 → ∀ x, X 4 [some (.ref 0), some (.int (nI 1)), some (.int 2), x] [] (p5 sc s S R L tw f fc len B c rest) (mc, ms) := by
    intro hn hb x
    obtain ⟨mw, tw1, mb, tb, c1, c2, c3, c4, c5, c6, c7, c8, c9⟩ := cmp 2 1 (by decide) (by decide)
    have eM : bestM s 3 = if valV s (nI (bestM s 2)) 5 ≤ valV s (nI 2) 5 then bestM s 2 else 2 := rfl
    rw [hb] at eM
    have keep : valV s (nI 1) 5 ≤ valV s (nI 2) 5 → ∀ y, X 59 [some (.ref 0), some (.int (nI 1)), some (.int 2), y] [] (p5 sc s S R L tw f fc len B c rest) (mc, ms) := by
      intro hv y
      refine go hX (fun pc => if pc = 4 then some 3 else none) 40 ?_
      exact hX.2 _ _ _ _ _ _ (fun i v hi => by
        match i, hi with
        | 0, hi => exact hi
        | 1, hi => exact hi
        | 2, hi => exact hi
        | 3, hi => cases hi
        | k + 4, hi => cases hi) (hn 1 (eM.trans (if_pos hv)))
    have take : ¬ valV s (nI 1) 5 ≤ valV s (nI 2) 5 → ∀ y, X 57 [some (.ref 0), some (.int (nI 1)), some (.int 2), y] [] (p5 sc s S R L tw f fc len B c rest) (mc, ms) := by
      intro hv y
      refine go hX (fun pc => if pc = 4 then some 3 else none) 40 ?_
      exact hX.2 _ _ _ _ _ _ (fun i v hi => by
        match i, hi with
        | 0, hi => exact hi
        | 1, hi => exact hi
        | 2, hi => exact hi
        | 3, hi => cases hi
        | k + 4, hi => cases hi) (hn 2 (eM.trans (if_neg hv)))
    have p53 : ∀ z : Int32, (z < 0 ↔ ¬ valV s (nI 1) 5 ≤ valV s (nI 2) 5) → X 53 [some (.ref 0), some (.int (nI 1)), some (.int 2), some (.int z)] [] (p5 sc s S R L tw f fc len B c rest) (mc, ms) := by
      intro z hz
      refine go hX (fun pc => if pc = 57 then some 4 else if pc = 59 then some 4 else none) 40 ?_
      refine And.intro (fun y => ?_) (fun y => ?_)
      · exact keep (Classical.byContradiction (fun q => Int32.not_lt.mpr y (hz.mpr q))) _
      · exact take (hz.mp (Int32.not_le.mp y)) _
    have p33 : mw = mb → X 33 [some (.ref 0), some (.int (nI 1)), some (.int 2), some (.int 0)] [] (p5 sc s S R L tw f fc len B c rest) (mc, ms) := by
      intro hmm
      refine go hX (fun pc => if pc = 53 then some 4 else none) 40 ?_
      refine ⟨in_lit (by decide), 29, rfl, in_lit (by decide), in_lit (by decide), 28, rfl, in_lit (by decide), ?_⟩
      refine j_compare ?_
      refine p53 _ ?_
      rw [show fc 2 (0 : Int32).toNatClampNeg = nI tw1 from c6, show fc 1 (0 : Int32).toNatClampNeg = nI tb from c8, c9]
      by_cases h1 : nI tb ≤ nI tw1
      · have h1' := (nI_leI (by omega) (by omega)).mp h1
        rw [if_pos h1]
        refine ⟨fun z => absurd z ?_, fun z => absurd (by omega) z⟩
        split <;> decide
      · have h1' : ¬ tb ≤ tw1 := fun y => h1 (nI_le y (by omega))
        rw [if_neg h1]
        exact ⟨fun _ => by omega, fun _ => by decide⟩
    refine go hX (fun pc => if pc = 33 then some 4 else if pc = 53 then some 4 else none) 40 ?_
    refine And.intro (fun z => absurd z (by decide)) (fun _ => ?_)
    refine ⟨in_lit (by decide), 29, rfl, in_lit (by decide), in_lit (by decide), 28, rfl, in_lit (by decide), ?_⟩
    refine j_compare ?_
    rw [show fc 2 (5 : Int32).toNatClampNeg = nI mw from c5, show fc 1 (5 : Int32).toNatClampNeg = nI mb from c7]
    by_cases h1 : nI mb ≤ nI mw
    · have h1' := (nI_leI (by omega) (by omega)).mp h1
      rw [if_pos h1]
      by_cases h2 : nI mw = nI mb
      · rw [if_pos h2]
        exact And.intro (fun z => absurd rfl z) (fun _ => p33 ((nI_eq (by omega) (by omega)).mp h2))
      · rw [if_neg h2]
        have h2' : ¬ mw = mb := fun y => h2 (by rw [y])
        exact And.intro (fun _ => p53 1 ⟨fun z => absurd z (by decide), fun z => absurd (c9.mpr (by omega)) z⟩) (fun z => absurd z (by decide))
    · have h1' : ¬ mb ≤ mw := fun y => h1 (nI_le y (by omega))
      rw [if_neg h1]
      exact And.intro (fun _ => p53 (-1) ⟨fun _ => fun z => by have := c9.mp z; omega, fun _ => by decide⟩) (fun z => absurd z (by decide))
  have s20 : (∀ b1, bestM s 3 = b1 → X 4 [some (.ref 0), some (.int (nI b1)), some (.int 3), none] [] (p5 sc s S R L tw f fc len B c rest) (mc, ms)) → bestM s 2 = 0 → ∀ x, X 4 [some (.ref 0), some (.int (nI 0)), some (.int 2), x] [] (p5 sc s S R L tw f fc len B c rest) (mc, ms) := by
    intro hn hb x
    obtain ⟨mw, tw1, mb, tb, c1, c2, c3, c4, c5, c6, c7, c8, c9⟩ := cmp 2 0 (by decide) (by decide)
    have eM : bestM s 3 = if valV s (nI (bestM s 2)) 5 ≤ valV s (nI 2) 5 then bestM s 2 else 2 := rfl
    rw [hb] at eM
    have keep : valV s (nI 0) 5 ≤ valV s (nI 2) 5 → ∀ y, X 59 [some (.ref 0), some (.int (nI 0)), some (.int 2), y] [] (p5 sc s S R L tw f fc len B c rest) (mc, ms) := by
      intro hv y
      refine go hX (fun pc => if pc = 4 then some 3 else none) 40 ?_
      exact hX.2 _ _ _ _ _ _ (fun i v hi => by
        match i, hi with
        | 0, hi => exact hi
        | 1, hi => exact hi
        | 2, hi => exact hi
        | 3, hi => cases hi
        | k + 4, hi => cases hi) (hn 0 (eM.trans (if_pos hv)))
    have take : ¬ valV s (nI 0) 5 ≤ valV s (nI 2) 5 → ∀ y, X 57 [some (.ref 0), some (.int (nI 0)), some (.int 2), y] [] (p5 sc s S R L tw f fc len B c rest) (mc, ms) := by
      intro hv y
      refine go hX (fun pc => if pc = 4 then some 3 else none) 40 ?_
      exact hX.2 _ _ _ _ _ _ (fun i v hi => by
        match i, hi with
        | 0, hi => exact hi
        | 1, hi => exact hi
        | 2, hi => exact hi
        | 3, hi => cases hi
        | k + 4, hi => cases hi) (hn 2 (eM.trans (if_neg hv)))
    have p53 : ∀ z : Int32, (z < 0 ↔ ¬ valV s (nI 0) 5 ≤ valV s (nI 2) 5) → X 53 [some (.ref 0), some (.int (nI 0)), some (.int 2), some (.int z)] [] (p5 sc s S R L tw f fc len B c rest) (mc, ms) := by
      intro z hz
      refine go hX (fun pc => if pc = 57 then some 4 else if pc = 59 then some 4 else none) 40 ?_
      refine And.intro (fun y => ?_) (fun y => ?_)
      · exact keep (Classical.byContradiction (fun q => Int32.not_lt.mpr y (hz.mpr q))) _
      · exact take (hz.mp (Int32.not_le.mp y)) _
    have p33 : mw = mb → X 33 [some (.ref 0), some (.int (nI 0)), some (.int 2), some (.int 0)] [] (p5 sc s S R L tw f fc len B c rest) (mc, ms) := by
      intro hmm
      refine go hX (fun pc => if pc = 53 then some 4 else none) 40 ?_
      refine ⟨in_lit (by decide), 29, rfl, in_lit (by decide), in_lit (by decide), 27, rfl, in_lit (by decide), ?_⟩
      refine j_compare ?_
      refine p53 _ ?_
      rw [show fc 2 (0 : Int32).toNatClampNeg = nI tw1 from c6, show fc 0 (0 : Int32).toNatClampNeg = nI tb from c8, c9]
      by_cases h1 : nI tb ≤ nI tw1
      · have h1' := (nI_leI (by omega) (by omega)).mp h1
        rw [if_pos h1]
        refine ⟨fun z => absurd z ?_, fun z => absurd (by omega) z⟩
        split <;> decide
      · have h1' : ¬ tb ≤ tw1 := fun y => h1 (nI_le y (by omega))
        rw [if_neg h1]
        exact ⟨fun _ => by omega, fun _ => by decide⟩
    refine go hX (fun pc => if pc = 33 then some 4 else if pc = 53 then some 4 else none) 40 ?_
    refine And.intro (fun z => absurd z (by decide)) (fun _ => ?_)
    refine ⟨in_lit (by decide), 29, rfl, in_lit (by decide), in_lit (by decide), 27, rfl, in_lit (by decide), ?_⟩
    refine j_compare ?_
    rw [show fc 2 (5 : Int32).toNatClampNeg = nI mw from c5, show fc 0 (5 : Int32).toNatClampNeg = nI mb from c7]
    by_cases h1 : nI mb ≤ nI mw
    · have h1' := (nI_leI (by omega) (by omega)).mp h1
      rw [if_pos h1]
      by_cases h2 : nI mw = nI mb
      · rw [if_pos h2]
        exact And.intro (fun z => absurd rfl z) (fun _ => p33 ((nI_eq (by omega) (by omega)).mp h2))
      · rw [if_neg h2]
        have h2' : ¬ mw = mb := fun y => h2 (by rw [y])
        exact And.intro (fun _ => p53 1 ⟨fun z => absurd z (by decide), fun z => absurd (c9.mpr (by omega)) z⟩) (fun z => absurd z (by decide))
    · have h1' : ¬ mb ≤ mw := fun y => h1 (nI_le y (by omega))
      rw [if_neg h1]
      exact And.intro (fun _ => p53 (-1) ⟨fun _ => fun z => by have := c9.mp z; omega, fun _ => by decide⟩) (fun z => absurd z (by decide))
  have s10 : (∀ b1, bestM s 2 = b1 → X 4 [some (.ref 0), some (.int (nI b1)), some (.int 2), none] [] (p5 sc s S R L tw f fc len B c rest) (mc, ms)) → bestM s 1 = 0 → ∀ x, X 4 [some (.ref 0), some (.int (nI 0)), some (.int 1), x] [] (p5 sc s S R L tw f fc len B c rest) (mc, ms) := by
    intro hn hb x
    obtain ⟨mw, tw1, mb, tb, c1, c2, c3, c4, c5, c6, c7, c8, c9⟩ := cmp 1 0 (by decide) (by decide)
    have eM : bestM s 2 = if valV s (nI (bestM s 1)) 5 ≤ valV s (nI 1) 5 then bestM s 1 else 1 := rfl
    rw [hb] at eM
    have keep : valV s (nI 0) 5 ≤ valV s (nI 1) 5 → ∀ y, X 59 [some (.ref 0), some (.int (nI 0)), some (.int 1), y] [] (p5 sc s S R L tw f fc len B c rest) (mc, ms) := by
      intro hv y
      refine go hX (fun pc => if pc = 4 then some 3 else none) 40 ?_
      exact hX.2 _ _ _ _ _ _ (fun i v hi => by
        match i, hi with
        | 0, hi => exact hi
        | 1, hi => exact hi
        | 2, hi => exact hi
        | 3, hi => cases hi
        | k + 4, hi => cases hi) (hn 0 (eM.trans (if_pos hv)))
    have take : ¬ valV s (nI 0) 5 ≤ valV s (nI 1) 5 → ∀ y, X 57 [some (.ref 0), some (.int (nI 0)), some (.int 1), y] [] (p5 sc s S R L tw f fc len B c rest) (mc, ms) := by
      intro hv y
      refine go hX (fun pc => if pc = 4 then some 3 else none) 40 ?_
      exact hX.2 _ _ _ _ _ _ (fun i v hi => by
        match i, hi with
        | 0, hi => exact hi
        | 1, hi => exact hi
        | 2, hi => exact hi
        | 3, hi => cases hi
        | k + 4, hi => cases hi) (hn 1 (eM.trans (if_neg hv)))
    have p53 : ∀ z : Int32, (z < 0 ↔ ¬ valV s (nI 0) 5 ≤ valV s (nI 1) 5) → X 53 [some (.ref 0), some (.int (nI 0)), some (.int 1), some (.int z)] [] (p5 sc s S R L tw f fc len B c rest) (mc, ms) := by
      intro z hz
      refine go hX (fun pc => if pc = 57 then some 4 else if pc = 59 then some 4 else none) 40 ?_
      refine And.intro (fun y => ?_) (fun y => ?_)
      · exact keep (Classical.byContradiction (fun q => Int32.not_lt.mpr y (hz.mpr q))) _
      · exact take (hz.mp (Int32.not_le.mp y)) _
    have p33 : mw = mb → X 33 [some (.ref 0), some (.int (nI 0)), some (.int 1), some (.int 0)] [] (p5 sc s S R L tw f fc len B c rest) (mc, ms) := by
      intro hmm
      refine go hX (fun pc => if pc = 53 then some 4 else none) 40 ?_
      refine ⟨in_lit (by decide), 28, rfl, in_lit (by decide), in_lit (by decide), 27, rfl, in_lit (by decide), ?_⟩
      refine j_compare ?_
      refine p53 _ ?_
      rw [show fc 1 (0 : Int32).toNatClampNeg = nI tw1 from c6, show fc 0 (0 : Int32).toNatClampNeg = nI tb from c8, c9]
      by_cases h1 : nI tb ≤ nI tw1
      · have h1' := (nI_leI (by omega) (by omega)).mp h1
        rw [if_pos h1]
        refine ⟨fun z => absurd z ?_, fun z => absurd (by omega) z⟩
        split <;> decide
      · have h1' : ¬ tb ≤ tw1 := fun y => h1 (nI_le y (by omega))
        rw [if_neg h1]
        exact ⟨fun _ => by omega, fun _ => by decide⟩
    refine go hX (fun pc => if pc = 33 then some 4 else if pc = 53 then some 4 else none) 40 ?_
    refine And.intro (fun z => absurd z (by decide)) (fun _ => ?_)
    refine ⟨in_lit (by decide), 28, rfl, in_lit (by decide), in_lit (by decide), 27, rfl, in_lit (by decide), ?_⟩
    refine j_compare ?_
    rw [show fc 1 (5 : Int32).toNatClampNeg = nI mw from c5, show fc 0 (5 : Int32).toNatClampNeg = nI mb from c7]
    by_cases h1 : nI mb ≤ nI mw
    · have h1' := (nI_leI (by omega) (by omega)).mp h1
      rw [if_pos h1]
      by_cases h2 : nI mw = nI mb
      · rw [if_pos h2]
        exact And.intro (fun z => absurd rfl z) (fun _ => p33 ((nI_eq (by omega) (by omega)).mp h2))
      · rw [if_neg h2]
        have h2' : ¬ mw = mb := fun y => h2 (by rw [y])
        exact And.intro (fun _ => p53 1 ⟨fun z => absurd z (by decide), fun z => absurd (c9.mpr (by omega)) z⟩) (fun z => absurd z (by decide))
    · have h1' : ¬ mb ≤ mw := fun y => h1 (nI_le y (by omega))
      rw [if_neg h1]
      exact And.intro (fun _ => p53 (-1) ⟨fun _ => fun z => by have := c9.mp z; omega, fun _ => by decide⟩) (fun z => absurd z (by decide))
  have n3 : ∀ b1, bestM s 3 = b1 → X 4 [some (.ref 0), some (.int (nI b1)), some (.int 3), none] [] (p5 sc s S R L tw f fc len B c rest) (mc, ms) := by
    intro b1 hb
    have hx : ∀ b2, bestM s 4 = b2 → X 4 [some (.ref 0), some (.int (nI b2)), some (.int 4), none] [] (p5 sc s S R L tw f fc len B c rest) (mc, ms) := fun b2 hb2 => by rw [← hb2]; exact p4
    have hlt : b1 < 3 := by
      rw [← hb]
      have e3 : bestM s 3 = if valV s (nI (bestM s 2)) 5 ≤ valV s (nI 2) 5 then bestM s 2 else 2 := rfl
      have e2 : bestM s 2 = if valV s (nI (bestM s 1)) 5 ≤ valV s (nI 1) 5 then bestM s 1 else 1 := rfl
      have e1 : bestM s 1 = 0 := rfl
      have : bestM s 2 < 2 := by rw [e2, e1]; split <;> decide
      rw [e3]
      split
      · omega
      · decide
    match b1, hlt, hb with
    | 0, _, hb => exact s30 hx hb none
    | 1, _, hb => exact s31 hx hb none
    | 2, _, hb => exact s32 hx hb none
  have n2 : ∀ b1, bestM s 2 = b1 → X 4 [some (.ref 0), some (.int (nI b1)), some (.int 2), none] [] (p5 sc s S R L tw f fc len B c rest) (mc, ms) := by
    intro b1 hb
    have hlt : b1 < 2 := by
      rw [← hb]
      have e2 : bestM s 2 = if valV s (nI (bestM s 1)) 5 ≤ valV s (nI 1) 5 then bestM s 1 else 1 := rfl
      have e1 : bestM s 1 = 0 := rfl
      rw [e2, e1]
      split <;> decide
    match b1, hlt, hb with
    | 0, _, hb => exact s20 n3 hb none
    | 1, _, hb => exact s21 n3 hb none
  refine go hX (fun pc => if pc = 4 then some 4 else none) 40 ?_
  exact s10 n2 rfl none
set_option maxRecDepth 20000 in
theorem p_bestWay (hI : Inv T s) (hT : T + 12 < 2 ^ 31) (hC : CS T s S R L) (hQ : ∀ tw1 fc1, Q (.inl (some (.int (nI (bestM s 4))))) (p5 sc s S R L tw1 f fc1 len B c rest)) : Tr tX9_bestWay mc ms [.ref 0] (p5 sc s S R L tw f fc len B c rest) Q := by
  refine Tr.run sX9_bestWay (by decide +kernel) rfl 40 fun X => ?_
  refine p_forecastAll hI hT hC (fun tw1 fc1 hF => ?_)
  refine p_bestF hI hF ?_
  exact hQ tw1 fc1
set_option maxRecDepth 20000 in
theorem p_finishBy {wv jv : Int32} (hI : Inv T s) (hT : T + 12 < 2 ^ 31) (hC : CS T s S R L) (hQ : ∀ tw1 fc1, Q (exO IAE IAE (finishByA wv jv s).1 (finishByA wv jv s).2) (p5 sc s S R L tw1 f fc1 len B c rest)) : Tr tX9_finishBy 1 6 [.ref 0, .int wv, .int jv] (p5 sc s S R L tw f fc len B c rest) Q := by
  refine Tr.of sX9_finishBy (by decide +kernel) (Nat.le_of_ble_eq_true rfl) fun X hX => ?_
  unfold finishByA at hQ
  have e5 : ((5 : Int32).toInt) = 5 := by decide
  have e4 : ((4 : Int32).toInt) = 4 := by decide
  cases hw : inI wv 0 3 with
  | false =>
    rw [hw, Bool.false_and, if_neg (by decide), exO_1] at hQ
    refine go hX (fun _ => none) 40 ?_
    refine p_isWay ?_
    rw [hw]
    exact And.intro (fun _ => hQ tw fc) (fun z => absurd rfl z)
  | true =>
    rw [hw, Bool.true_and] at hQ
    obtain ⟨wa, wb⟩ := inI_nat (c := 3) (by decide) hw
    have v4 : vp_in wv 4 := by rw [wa]; exact in_nI (by omega) (by decide)
    have p29 : inI jv 0 4 = true → ∀ tw1 row, (∀ i, i < 6 → row i = frc s wv i) → X 29 [some (.ref 0), some (.int wv), some (.int jv)] [] (p5 sc s S R L tw1 f (setR fc wv.toNatClampNeg row) len B c rest) (1, 6) := by
      intro hj tw1 row hrow
      rw [hj, if_pos rfl, exO_0] at hQ
      obtain ⟨ja, jb⟩ := inI_nat (c := 4) (by decide) hj
      have v6 : vp_in jv 6 := by rw [ja]; exact in_nI (by omega) (by decide)
      have hv : row jv.toNatClampNeg = valV s wv jv.toNatClampNeg := by rw [hrow _ (by omega)]; exact if_neg (by omega)
      rw [← hv] at hQ
      have hq := hQ tw1 (setR fc wv.toNatClampNeg row)
      generalize hk : wv.toNatClampNeg = k at *
      refine go hX (fun _ => none) 40 ?_
      match k, wb, hk with
      | 0, _, hk => exact ⟨v4, 27, by rw [hk]; rfl, v6, hq⟩
      | 1, _, hk => exact ⟨v4, 28, by rw [hk]; rfl, v6, hq⟩
      | 2, _, hk => exact ⟨v4, 29, by rw [hk]; rfl, v6, hq⟩
      | 3, _, hk => exact ⟨v4, 30, by rw [hk]; rfl, v6, hq⟩
    refine go hX (fun pc => if pc = 29 then some 3 else none) 40 ?_
    refine p_isWay ?_
    rw [hw]
    refine And.intro (fun z => absurd z (by decide)) (fun _ => And.intro (fun h => ?_) (fun h => And.intro (fun h2 => ?_) (fun h2 => ?_)))
    · rw [inI_l (Int32.not_le.mpr h), if_neg (by decide), exO_1] at hQ
      exact hQ tw fc
    · have g := Int32.lt_iff_toInt_lt.mp (show jv < 5 from h2)
      have hj : inI jv 0 4 = true := inI_t (Int32.not_lt.mp h) (Int32.le_iff_toInt_le.mpr (by omega))
      refine p_forecast (j := wv.toNatClampNeg) (by omega) wa hI hT hC (fun tw1 row hrow => ?_)
      exact p29 hj tw1 row hrow
    · have g := Int32.le_iff_toInt_le.mp (Int32.not_lt.mp (show ¬ jv < 5 from h2))
      rw [inI_h (fun z => by have := Int32.le_iff_toInt_le.mp z; omega), if_neg (by decide), exO_1] at hQ
      exact hQ tw fc
