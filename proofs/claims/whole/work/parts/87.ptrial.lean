/-! ===== PlateArm: the world with trial, forecasts, text and scan ===== -/
variable {Q : AQ} {mc ms T : Nat} {sc len : Int32} {S L B : Nat → Int32} {R fc : Nat → Nat → Int32} {rest : AM} {s : Sg} {c : Scn} {f : Nat → Option Nat}
abbrev Wd : Type := (Nat → Int32) × Int32 × (Nat → Int32) × (Nat → Nat → Int32) × (Nat → Int32)
def stW (b : Nat) (w : Wd) : AM := stA b w.1 w.2.1 w.2.2.1 w.2.2.2.1 w.2.2.2.2
def fcR : Nat → Option Nat := fun i => if i < 4 then some (26 + 1 + i) else none
def p5t (f : Nat → Option Nat) (fc : Nat → Nat → Int32) (len : Int32) (B : Nat → Int32) (c : Scn) (rest : AM) : AM :=
  .inl (3, 4, .inr (.inr (.inr (.inr f)))) :: .inl (4, 4, .inr (.inr (.inr (.inr fcR)))) :: .inl (0, 6, .inl (fc 0)) :: .inl (0, 6, .inl (fc 1)) :: .inl (0, 6, .inl (fc 2)) :: .inl (0, 6, .inl (fc 3)) :: (tcW 31 len B ++ (scW 33 c ++ rest))
def pw2 (sc : Int32) (s : Sg) (S : Nat → Int32) (R : Nat → Nat → Int32) (L : Nat → Int32) (tw : Wd) (rest : AM) : AM := pwS sc s S R L (stW 13 tw ++ rest)
def p5 (sc : Int32) (s : Sg) (S : Nat → Int32) (R : Nat → Nat → Int32) (L : Nat → Int32) (tw : Wd) (f : Nat → Option Nat) (fc : Nat → Nat → Int32) (len : Int32) (B : Nat → Int32) (c : Scn) (rest : AM) : AM := pw2 sc s S R L tw (p5t f fc len B c rest)
variable {tw : Wd}
set_option maxRecDepth 20000 in
theorem p_whole0 {w : Int32} {j : Nat} (hC : CS T s S R L) (hw : w = nI j) (hj : j ≤ 17) (hQ : Q (.inl (some (.int (wholeV s len j)))) (p5 sc s S R L tw f fc len B c rest)) : Tr tX9_whole mc ms [.ref 0, .int w] (p5 sc s S R L tw f fc len B c rest) Q := by
  have ej : ∀ c : Nat, c < 18 → (w = nI c ↔ j = c) := fun c hc => by rw [hw]; exact nI_eq (by omega) (by omega)
  have eS : ∀ i, i < 4 → S i = s.1 (2 + i) := hC.1
  refine Tr.run sX9_whole (by decide +kernel) rfl 60 fun X => ?_
  unfold wholeV at hQ
  refine And.intro (fun z => ?_) (fun z0 => And.intro (fun z => ?_) (fun z1 => And.intro (fun z => ⟨in_lit (by decide), ?_⟩) (fun z2 => And.intro (fun z => ⟨in_lit (by decide), ?_⟩) (fun z3 => And.intro (fun z => ⟨in_lit (by decide), ?_⟩) (fun z4 => And.intro (fun z => ⟨in_lit (by decide), ?_⟩) (fun z5 => And.intro (fun z => ?_) (fun z6 => And.intro (fun z => ?_) (fun z7 => And.intro (fun z => ?_) (fun z8 => And.intro (fun z => ?_) (fun z9 => And.intro (fun z => ?_) (fun z10 => And.intro (fun z => ?_) (fun z11 => And.intro (fun z => ?_) (fun z12 => And.intro (fun z => ?_) (fun z13 => And.intro (fun z => ?_) (fun z14 => And.intro (fun z => ?_) (fun z15 => And.intro (fun z => ?_) (fun z16 => And.intro (fun z => ?_) (fun z17 => ?_))))))))))))))))))
  · rw [(ej 0 (by decide)).mp z, if_pos (by decide)] at hQ; exact hQ
  · rw [(ej 1 (by decide)).mp z, if_pos (by decide)] at hQ; exact hQ
  · rw [(ej 2 (by decide)).mp z, if_pos (by decide), show s.1 2 = S 0 from (eS 0 (by decide)).symm] at hQ; exact hQ
  · rw [(ej 3 (by decide)).mp z, if_pos (by decide), show s.1 3 = S 1 from (eS 1 (by decide)).symm] at hQ; exact hQ
  · rw [(ej 4 (by decide)).mp z, if_pos (by decide), show s.1 4 = S 2 from (eS 2 (by decide)).symm] at hQ; exact hQ
  · rw [(ej 5 (by decide)).mp z, if_pos (by decide), show s.1 5 = S 3 from (eS 3 (by decide)).symm] at hQ; exact hQ
  · rw [(ej 6 (by decide)).mp z, if_pos (by decide)] at hQ; exact hQ
  · rw [(ej 7 (by decide)).mp z, if_neg (by decide), if_pos rfl] at hQ; exact hQ
  · rw [(ej 8 (by decide)).mp z, if_neg (by decide), if_neg (by decide), if_neg (by decide)] at hQ; exact hQ
  · rw [(ej 9 (by decide)).mp z, if_neg (by decide), if_neg (by decide), if_neg (by decide)] at hQ; exact hQ
  · rw [(ej 10 (by decide)).mp z, if_neg (by decide), if_neg (by decide), if_neg (by decide)] at hQ; exact hQ
  · rw [(ej 11 (by decide)).mp z, if_neg (by decide), if_neg (by decide), if_neg (by decide)] at hQ; exact hQ
  · rw [(ej 12 (by decide)).mp z, if_neg (by decide), if_neg (by decide), if_neg (by decide)] at hQ; exact hQ
  · rw [(ej 13 (by decide)).mp z, if_neg (by decide), if_neg (by decide), if_neg (by decide)] at hQ; exact hQ
  · rw [(ej 14 (by decide)).mp z, if_neg (by decide), if_neg (by decide), if_neg (by decide)] at hQ; exact hQ
  · rw [(ej 15 (by decide)).mp z, if_neg (by decide), if_neg (by decide), if_neg (by decide)] at hQ; exact hQ
  · rw [(ej 16 (by decide)).mp z, if_neg (by decide), if_neg (by decide), if_neg (by decide)] at hQ; exact hQ
  · rw [(ej 17 (by decide)).mp z, if_neg (by decide), if_neg (by decide), if_pos rfl] at hQ; exact hQ
  · exfalso
    have n0 : ¬ j = 0 := fun y => z0 ((ej 0 (by decide)).mpr y)
    have n1 : ¬ j = 1 := fun y => z1 ((ej 1 (by decide)).mpr y)
    have n2 : ¬ j = 2 := fun y => z2 ((ej 2 (by decide)).mpr y)
    have n3 : ¬ j = 3 := fun y => z3 ((ej 3 (by decide)).mpr y)
    have n4 : ¬ j = 4 := fun y => z4 ((ej 4 (by decide)).mpr y)
    have n5 : ¬ j = 5 := fun y => z5 ((ej 5 (by decide)).mpr y)
    have n6 : ¬ j = 6 := fun y => z6 ((ej 6 (by decide)).mpr y)
    have n7 : ¬ j = 7 := fun y => z7 ((ej 7 (by decide)).mpr y)
    have n8 : ¬ j = 8 := fun y => z8 ((ej 8 (by decide)).mpr y)
    have n9 : ¬ j = 9 := fun y => z9 ((ej 9 (by decide)).mpr y)
    have n10 : ¬ j = 10 := fun y => z10 ((ej 10 (by decide)).mpr y)
    have n11 : ¬ j = 11 := fun y => z11 ((ej 11 (by decide)).mpr y)
    have n12 : ¬ j = 12 := fun y => z12 ((ej 12 (by decide)).mpr y)
    have n13 : ¬ j = 13 := fun y => z13 ((ej 13 (by decide)).mpr y)
    have n14 : ¬ j = 14 := fun y => z14 ((ej 14 (by decide)).mpr y)
    have n15 : ¬ j = 15 := fun y => z15 ((ej 15 (by decide)).mpr y)
    have n16 : ¬ j = 16 := fun y => z16 ((ej 16 (by decide)).mpr y)
    have n17 : ¬ j = 17 := fun y => z17 ((ej 17 (by decide)).mpr y)
    omega
set_option maxRecDepth 20000 in
theorem p_whole {w : Int32} (hC : CS T s S R L) (hQ : Q (exO IAE IAE (wholeA w len s).1 (wholeA w len s).2) (p5 sc s S R L tw f fc len B c rest)) : Tr tX9_whole 1 6 [.ref 0, .int w] (p5 sc s S R L tw f fc len B c rest) Q := by
  unfold wholeA at hQ
  cases hw : inI w 0 17 with
  | true =>
    rw [hw, if_pos rfl, exO_0] at hQ
    obtain ⟨a, b⟩ := inI_nat (c := 17) (by decide) hw
    exact p_whole0 hC a b hQ
  | false =>
    rw [hw, if_neg (by decide), exO_1] at hQ
    have nw := inI_n (c := 17) (by decide) (by decide) hw
    refine Tr.run sX9_whole (by decide +kernel) rfl 60 fun X => ?_
    exact And.intro (fun z => absurd z (nw 0 (by decide))) (fun _ => And.intro (fun z => absurd z (nw 1 (by decide))) (fun _ => And.intro (fun z => absurd z (nw 2 (by decide))) (fun _ => And.intro (fun z => absurd z (nw 3 (by decide))) (fun _ => And.intro (fun z => absurd z (nw 4 (by decide))) (fun _ => And.intro (fun z => absurd z (nw 5 (by decide))) (fun _ => And.intro (fun z => absurd z (nw 6 (by decide))) (fun _ => And.intro (fun z => absurd z (nw 7 (by decide))) (fun _ => And.intro (fun z => absurd z (nw 8 (by decide))) (fun _ => And.intro (fun z => absurd z (nw 9 (by decide))) (fun _ => And.intro (fun z => absurd z (nw 10 (by decide))) (fun _ => And.intro (fun z => absurd z (nw 11 (by decide))) (fun _ => And.intro (fun z => absurd z (nw 12 (by decide))) (fun _ => And.intro (fun z => absurd z (nw 13 (by decide))) (fun _ => And.intro (fun z => absurd z (nw 14 (by decide))) (fun _ => And.intro (fun z => absurd z (nw 15 (by decide))) (fun _ => And.intro (fun z => absurd z (nw 16 (by decide))) (fun _ => And.intro (fun z => absurd z (nw 17 (by decide))) (fun _ => hQ))))))))))))))))))
set_option maxRecDepth 20000 in
theorem p_clear (hQ : Q (.inl (some (.int len))) (p5 sc s S R L tw f fc 0 B c rest)) : Tr tX9_clearCommands mc ms [.ref 0] (p5 sc s S R L tw f fc len B c rest) Q := by
  refine Tr.run sX9_clearCommands (by decide +kernel) rfl 60 fun X => ?_
  exact hQ
theorem lt_127 {v : Int32} : inI v 0 127 = true ↔ 0 ≤ v.toInt ∧ v.toInt ≤ 127 := by
  rw [inI_iff]
  have e1 : ((127 : Int32).toInt) = 127 := by decide
  rw [i32_0, e1]
set_option maxRecDepth 20000 in
theorem p_type {v : Int32} {b : Nat → Int32} {n : Nat} (hT : TB len B b n) (hn0 : len = nI n) (hQ : ∀ B1 : Nat → Int32, (inI v 0 127 = true → ¬ n = 150 → B1 = upd B n v) → ((inI v 0 127 = false ∨ n = 150) → B1 = B) → Q (exO IAE ISE (if inI v 0 127 = true then (if n = 150 then 2 else 0) else 1) (if inI v 0 127 = true then (if n = 150 then 0 else len + 1) else 0)) (p5 sc s S R L tw f fc (if inI v 0 127 = true then (if n = 150 then len else len + 1) else len) B1 c rest)) : Tr tX9_type 1 6 [.ref 0, .int v] (p5 sc s S R L tw f fc len B c rest) Q := by
  have hn := hT.2.1
  refine Tr.of sX9_type (by decide +kernel) (Nat.le_of_ble_eq_true rfl) fun X hX => ?_
  have p36 : inI v 0 127 = true → ¬ n = 150 → X 36 [some (.ref 0), some (.int v)] [] (p5 sc s S R L tw f fc len B c rest) (1, 6) := by
    intro hv h150
    have hq := hQ (upd B n v) (fun _ _ => rfl) (fun z => by rcases z with z | z; (rw [hv] at z; cases z); exact absurd z h150)
    rw [hv, if_pos rfl, if_pos rfl, if_pos rfl, if_neg h150, if_neg h150, if_neg h150, exO_0] at hq
    refine go hX (fun _ => none) 40 ?_
    refine Tr.ar [31, 32] (c_append (len := len) (B := B) (n := n) hn0 (by omega) (lt_127.mp hv) ?_) rfl rfl rfl
    exact hq
  have p18 : inI v 0 127 = true → X 18 [some (.ref 0), some (.int v)] [] (p5 sc s S R L tw f fc len B c rest) (1, 6) := by
    intro hv
    refine go hX (fun pc => if pc = 36 then some 2 else none) 40 ?_
    refine Tr.ar [31, 32] (c_tfull (len := len) (B := B) ?_) rfl rfl rfl
    by_cases h150 : n = 150
    · rw [z01_t (by rw [hn0]; exact nI_le (a := 150) (by omega) (by omega))]
      have hq := hQ B (fun _ z => absurd h150 z) (fun _ => rfl)
      rw [hv, if_pos rfl, if_pos rfl, if_pos rfl, if_pos h150, if_pos h150, if_pos h150, exO_2] at hq
      exact And.intro (fun z => absurd z (by decide)) (fun _ => hq)
    · rw [z01_f (by rw [hn0]; exact nI_ge (b := 150) (by omega) (by decide))]
      exact And.intro (fun _ => p36 hv h150) (fun z => absurd rfl z)
  refine go hX (fun pc => if pc = 18 then some 2 else none) 40 ?_
  have bad : inI v 0 127 = false → Q (.inr IAE) (p5 sc s S R L tw f fc len B c rest) := by
    intro hv
    have hq := hQ B (fun z => by rw [hv] at z; cases z) (fun _ => rfl)
    rw [hv, if_neg (by decide), if_neg (by decide), if_neg (by decide), exO_1] at hq
    exact hq
  refine And.intro (fun h => ?_) (fun h => And.intro (fun h2 => ?_) (fun h2 => ?_))
  · exact bad (inI_l (Int32.not_le.mpr h))
  · exact p18 (inI_t (Int32.not_lt.mp h) h2)
  · exact bad (inI_h h2)
/-! the trial -/
theorem cs_copy {S1 L1 : Nat → Int32} {R1 : Nat → Nat → Int32} (hC : CS T s S R L) (hm : s.2.1.length ≤ 12) (hS : ∀ j, j < 4 → S1 j = S j) (hR : ∀ j, j < 5 → ∀ k, k < 12 → R1 j k = R j k) (hL : ∀ k, k < 50 → L1 k = L k) : CS T s S1 R1 L1 := by
  obtain ⟨a, b, w, t, c1, c2, c3, c4, c5⟩ := hC
  refine ⟨fun j hj => (hS j hj).trans (a j hj), fun k r hr j hj => ?_, w, t, c1, c2, c3, c4, c5.1, fun b e he j hj => ?_⟩
  · have := (List.getElem?_eq_some_iff.mp hr).1
    rw [hR j hj k (by omega)]
    exact b k r hr j hj
  · rw [hL _ (by omega)]
    exact c5.2 b e he j hj
theorem Inv.r01 (hI : Inv T s) : s.1 19 = 0 ∨ s.1 19 = 1 := hI.1.2.2.2.2.2.2.2.2.1
set_option maxRecDepth 20000 in
theorem p_heatIn0 {t : Int32} (hI : Inv T s) (hT : T + 12 < 2 ^ 31) (hC : CS T s S R L) (ht : inI t 0 99 = true) (hQ : ∀ tw1, Q (.inl (some (.int (heatV s t.toNatClampNeg)))) (pw2 sc s S R L tw1 rest)) : Tr tX9_heatIn mc ms [.ref 0, .int t] (pw2 sc s S R L tw rest) Q := by
  obtain ⟨ta, tb⟩ := inI_nat (c := 99) (by decide) ht
  refine Tr.of sX9_heatIn (by decide +kernel) (Nat.le_of_ble_eq_true rfl) fun X hX => ?_
  have p38 : ∀ S2 R2 L2, X 38 [some (.ref 0), some (.int t)] [] (pw2 sc s S R L ((passS t.toNatClampNeg s).1, nI (passS t.toNatClampNeg s).2.1.length, S2, R2, L2) rest) (mc, ms) := by
    intro S2 R2 L2
    refine go hX (fun _ => none) 40 ?_
    exact hQ _
  have p30 : ∀ S2 R2 L2, CS T s S2 R2 L2 → X 30 [some (.ref 0), some (.int t)] [] (pw2 sc s S R L (s.1, nI s.2.1.length, S2, R2, L2) rest) (mc, ms) := by
    intro S2 R2 L2 hC2
    refine go hX (fun pc => if pc = 38 then some 2 else none) 40 ?_
    refine Tr.ap eT pT (c_passTicks (s := s) (S := S2) (R := R2) (L := L2) (k := t.toNatClampNeg) ta (by omega) hI hT hC2 (fun R3 L3 hC3 => ?_)) rfl rfl rfl rfl
    exact p38 S2 R3 L3
  have p19 : X 19 [some (.ref 0), some (.int t)] [] (pw2 sc s S R L tw rest) (mc, ms) := by
    refine go hX (fun pc => if pc = 30 then some 2 else none) 40 ?_
    refine Tr.ap eTS pTS (c_scopy (u := tw.1) (n := tw.2.1) (S := tw.2.2.1) (R := tw.2.2.2.1) (L := tw.2.2.2.2) (u1 := s.1) (n1 := nI s.2.1.length) (S1 := S) (R1 := R) (L1 := L) hI.r01 (fun S2 R2 L2 a1 a2 a3 => ?_)) rfl rfl rfl rfl
    exact p30 S2 R2 L2 (cs_copy hC hI.2.1 a1 a2 a3)
  refine go hX (fun pc => if pc = 19 then some 2 else none) 40 ?_
  refine And.intro (fun _ => p19) (fun h => ?_)
  refine p_ticksFit ?_
  have h1 : inI t 1 99 = true := by
    have g := inI_iff.mp ht
    refine inI_iff.mpr ⟨?_, g.2⟩
    have h0 : ¬ t.toInt = 0 := fun z => h (Int32.toInt_inj.mp (z.trans i32_0.symm))
    rw [i32_1]
    rw [i32_0] at g
    omega
  rw [h1]
  exact And.intro (fun _ => p19) (fun z => absurd z (by decide))
set_option maxRecDepth 20000 in
theorem p_heatIn {t : Int32} (hI : Inv T s) (hT : T + 12 < 2 ^ 31) (hC : CS T s S R L) (hQ : ∀ tw1, Q (exO IAE IAE (heatInA t s).1 (heatInA t s).2) (pw2 sc s S R L tw1 rest)) : Tr tX9_heatIn 1 6 [.ref 0, .int t] (pw2 sc s S R L tw rest) Q := by
  unfold heatInA at hQ
  cases ht : inI t 0 99 with
  | true =>
    rw [ht, if_pos rfl, exO_0] at hQ
    exact p_heatIn0 hI hT hC ht hQ
  | false =>
    rw [ht, if_neg (by decide), exO_1] at hQ
    refine Tr.run sX9_heatIn (by decide +kernel) rfl 60 fun X => ?_
    refine And.intro (fun z => ?_) (fun h => ?_)
    · rw [show t = 0 from z] at ht
      exact absurd ht (by decide)
    · refine p_ticksFit ?_
      have h1 : inI t 1 99 = false := by
        cases hx : inI t 1 99 with
        | false => rfl
        | true =>
          have g := inI_iff.mp hx
          rw [i32_1] at g
          have : inI t 0 99 = true := inI_iff.mpr ⟨by rw [i32_0]; omega, g.2⟩
          rw [ht] at this
          cases this
      rw [h1]
      exact And.intro (fun z => absurd rfl z) (fun _ => hQ tw)
set_option maxRecDepth 20000 in
theorem p_readIn {x : Int32} (hI : Inv T s) (hT : T + 12 < 2 ^ 31) (hC : CS T s S R L) (hQ : ∀ tw1, Q (exO IOE IOE (readInA x s).1 (readInA x s).2) (pw2 sc s S R L tw1 rest)) : Tr tX9_readIn 1 6 [.ref 0, .int x] (pw2 sc s S R L tw rest) Q := by
  refine Tr.of sX9_readIn (by decide +kernel) (Nat.le_of_ble_eq_true rfl) fun X hX => ?_
  have p34 : ∀ S2 R2 L2, ¬ fndL x s.2.1 = none → CS T s S2 R2 L2 → X 34 [some (.ref 0), some (.int x)] [] (pw2 sc s S R L (s.1, nI s.2.1.length, S2, R2, L2) rest) (1, 6) := by
    intro S2 R2 L2 hf hC2
    unfold readInA at hQ
    rw [if_neg hf, exO_0] at hQ
    refine go hX (fun _ => none) 40 ?_
    refine Tr.ap eT pT (c_seek (s := s) (S := S2) (R := R2) (L := L2) hI hT hC2 (fun u3 n3 S3 R3 L3 => ?_)) rfl rfl rfl rfl
    exact hQ (u3, n3, S3, R3, L3)
  have p23 : ¬ fndL x s.2.1 = none → X 23 [some (.ref 0), some (.int x)] [] (pw2 sc s S R L tw rest) (1, 6) := by
    intro hf
    refine go hX (fun pc => if pc = 34 then some 2 else none) 40 ?_
    refine Tr.ap eTS pTS (c_scopy (u := tw.1) (n := tw.2.1) (S := tw.2.2.1) (R := tw.2.2.2.1) (L := tw.2.2.2.2) (u1 := s.1) (n1 := nI s.2.1.length) (S1 := S) (R1 := R) (L1 := L) hI.r01 (fun S2 R2 L2 a1 a2 a3 => ?_)) rfl rfl rfl rfl
    exact p34 S2 R2 L2 hf (cs_copy hC hI.2.1 a1 a2 a3)
  refine go hX (fun pc => if pc = 23 then some 2 else none) 40 ?_
  refine Tr.ap eR pR (c_indexOf (R := R) (n := s.2.1.length) rfl hI.2.1 ?_) rfl rfl rfl rfl
  rw [fnd_eq hC.2.1]
  cases hf : fndL x s.2.1 with
  | none =>
    have hq := hQ tw
    unfold readInA at hq
    rw [if_pos hf, exO_1] at hq
    exact And.intro (fun z => absurd rfl z) (fun _ => hq)
  | some k =>
    have hk := fndL_lt hf
    have hm := hI.2.1
    exact And.intro (fun _ => p23 (by rw [hf]; exact fun z => nomatch z)) (fun z => absurd z (ix_ne (by omega)))
