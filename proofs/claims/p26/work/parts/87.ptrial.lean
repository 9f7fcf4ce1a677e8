/-! ===== PlateArm: the world with trial, forecasts, text and scan ===== -/
variable {Q : AQ} {mc ms T : Nat} {sc len : Int32} {S L B : Nat → Int32} {R fc : Nat → Nat → Int32} {rest : AM} {s : Sg} {c : Scn} {f : Nat → Option Nat}
abbrev Wd : Type := (Nat → Int32) × Int32 × (Nat → Int32) × (Nat → Nat → Int32) × (Nat → Int32)
def stW (b : Nat) (w : Wd) : AM := stA b w.1 w.2.1 w.2.2.1 w.2.2.2.1 w.2.2.2.2
def fcR : Nat → Option Nat := fun i => if i < 4 then some (26 + 1 + i) else none
def p5t (f : Nat → Option Nat) (fc : Nat → Nat → Int32) (len : Int32) (B : Nat → Int32) (c : Scn) (rest : AM) : AM :=
  .inl (3, 4, .inr (.inr (.inr (.inr f)))) :: .inl (4, 4, .inr (.inr (.inr (.inr fcR)))) :: .inl (0, 6, .inl (fc 0)) :: .inl (0, 6, .inl (fc 1)) :: .inl (0, 6, .inl (fc 2)) :: .inl (0, 6, .inl (fc 3)) :: (tcW 31 len B ++ (scW 33 c ++ rest))
def pw2 (sc : Int32) (s : Sg) (S : Nat → Int32) (R : Nat → Nat → Int32) (L : Nat → Int32) (tw : Wd) (rest : AM) : AM := pwS sc s S R L (stW 13 tw ++ rest)
def p5 (sc : Int32) (s : Sg) (S : Nat → Int32) (R : Nat → Nat → Int32) (L : Nat → Int32) (tw : Wd) (f : Nat → Option Nat) (fc : Nat → Nat → Int32) (len : Int32) (B : Nat → Int32) (c : Scn) (rest : AM) : AM := pw2 sc s S R L tw (p5t f fc len B c rest)
variable {tw : Wd}
set_option maxRecDepth 20000 in
theorem p_whole0 {w : Int32} {j : Nat} (hC : CS T s S R L) (hw : w = nI j) (hj : j ≤ 17) (hQ : Q (.inl (some (.int (wholeV s len j)))) (p5 sc s S R L tw f fc len B c rest)) : Tr tX9_whole mc ms [.ref 0, .int w] (p5 sc s S R L tw f fc len B c rest) Q := by
  have ej : ∀ c : Nat, c < 18 → (w = nI c ↔ j = c) := fun c hc => by rw [hw]; exact nI_eq (by omega) (by omega)
  have eS : ∀ i, i < 4 → S i = s.1 (2 + i) := hC.1
  refine Tr.run sX9_whole (by decide +kernel) rfl 60 fun X => ?_
  unfold wholeV at hQ
  refine And.intro (fun z => ?_) (fun z0 => And.intro (fun z => ?_) (fun z1 => And.intro (fun z => ⟨in_lit (by decide), ?_⟩) (fun z2 => And.intro (fun z => ⟨in_lit (by decide), ?_⟩) (fun z3 => And.intro (fun z => ⟨in_lit (by decide), ?_⟩) (fun z4 => And.intro (fun z => ⟨in_lit (by decide), ?_⟩) (fun z5 => And.intro (fun z => ?_) (fun z6 => And.intro (fun z => ?_) (fun z7 => And.intro (fun z => ?_) (fun z8 => And.intro (fun z => ?_) (fun z9 => And.intro (fun z => ?_) (fun z10 => And.intro (fun z => ?_) (fun z11 => And.intro (fun z => ?_) (fun z12 => And.intro (fun z => ?_) (fun z13 => And.intro (fun z => ?_) (fun z14 => And.intro (fun z => ?_) (fun z15 => And.intro (fun z => ?_) (fun z16 => And.intro (fun z => ?_) (fun z17 => ?_))))))))))))))))))
  · rw [(ej 0 (by decide)).mp z, if_pos (by decide)] at hQ; exact hQ
  · rw [(ej 1 (by decide)).mp z, if_pos (by decide)] at hQ; exact hQ
  · rw [(ej 2 (by decide)).mp z, if_pos (by decide), show s.1 2 = S 0 from (eS 0 (by decide)).symm] at hQ; exact hQ
  · rw [(ej 3 (by decide)).mp z, if_pos (by decide), show s.1 3 = S 1 from (eS 1 (by decide)).symm] at hQ; exact hQ
  · rw [(ej 4 (by decide)).mp z, if_pos (by decide), show s.1 4 = S 2 from (eS 2 (by decide)).symm] at hQ; exact hQ
  · rw [(ej 5 (by decide)).mp z, if_pos (by decide), show s.1 5 = S 3 from (eS 3 (by decide)).symm] at hQ; exact hQ
  · rw [(ej 6 (by decide)).mp z, if_pos (by decide)] at hQ; exact hQ
  · rw [(ej 7 (by decide)).mp z, if_neg (by decide), if_pos rfl] at hQ; exact hQ
  · rw [(ej 8 (by decide)).mp z, if_neg (by decide), if_neg (by decide), if_neg (by decide)] at hQ; exact hQ
  · rw [(ej 9 (by decide)).mp z, if_neg (by decide), if_neg (by decide), if_neg (by decide)] at hQ; exact hQ
  · rw [(ej 10 (by decide)).mp z, if_neg (by decide), if_neg (by decide), if_neg (by decide)] at hQ; exact hQ
  · rw [(ej 11 (by decide)).mp z, if_neg (by decide), if_neg (by decide), if_neg (by decide)] at hQ; exact hQ
  · rw [(ej 12 (by decide)).mp z, if_neg (by decide), if_neg (by decide), if_neg (by decide)] at hQ; exact hQ
  · rw [(ej 13 (by decide)).mp z, if_neg (by decide), if_neg (by decide), if_neg (by decide)] at hQ; exact hQ
  · rw [(ej 14 (by decide)).mp z, if_neg (by decide), if_neg (by decide), if_neg (by decide)] at hQ; exact hQ
  · rw [(ej 15 (by decide)).mp z, if_neg (by decide), if_neg (by decide), if_neg (by decide)] at hQ; exact hQ
  · rw [(ej 16 (by decide)).mp z, if_neg (by decide), if_neg (by decide), if_neg (by decide)] at hQ; exact hQ
  · rw [(ej 17 (by decide)).mp z, if_neg (by decide), if_neg (by decide), if_pos rfl] at hQ; exact hQ
  · exfalso
    have n0 : ¬ j = 0 := fun y => z0 ((ej 0 (by decide)).mpr y)
    have n1 : ¬ j = 1 := fun y => z1 ((ej 1 (by decide)).mpr y)
    have n2 : ¬ j = 2 := fun y => z2 ((ej 2 (by decide)).mpr y)
    have n3 : ¬ j = 3 := fun y => z3 ((ej 3 (by decide)).mpr y)
    have n4 : ¬ j = 4 := fun y => z4 ((ej 4 (by decide)).mpr y)
    have n5 : ¬ j = 5 := fun y => z5 ((ej 5 (by decide)).mpr y)
    have n6 : ¬ j = 6 := fun y => z6 ((ej 6 (by decide)).mpr y)
    have n7 : ¬ j = 7 := fun y => z7 ((ej 7 (by decide)).mpr y)
    have n8 : ¬ j = 8 := fun y => z8 ((ej 8 (by decide)).mpr y)
    have n9 : ¬ j = 9 := fun y => z9 ((ej 9 (by decide)).mpr y)
    have n10 : ¬ j = 10 := fun y => z10 ((ej 10 (by decide)).mpr y)
    have n11 : ¬ j = 11 := fun y => z11 ((ej 11 (by decide)).mpr y)
    have n12 : ¬ j = 12 := fun y => z12 ((ej 12 (by decide)).mpr y)
    have n13 : ¬ j = 13 := fun y => z13 ((ej 13 (by decide)).mpr y)
    have n14 : ¬ j = 14 := fun y => z14 ((ej 14 (by decide)).mpr y)
    have n15 : ¬ j = 15 := fun y => z15 ((ej 15 (by decide)).mpr y)
    have n16 : ¬ j = 16 := fun y => z16 ((ej 16 (by decide)).mpr y)
    have n17 : ¬ j = 17 := fun y => z17 ((ej 17 (by decide)).mpr y)
    omega
set_option maxRecDepth 20000 in
theorem p_whole {w : Int32} (hC : CS T s S R L) (hQ : Q (exO IAE IAE (wholeA w len s).1 (wholeA w len s).2) (p5 sc s S R L tw f fc len B c rest)) : Tr tX9_whole 1 6 [.ref 0, .int w] (p5 sc s S R L tw f fc len B c rest) Q := by
  unfold wholeA at hQ
  cases hw : inI w 0 17 with
  | true =>
    rw [hw, if_pos rfl, exO_0] at hQ
    obtain ⟨a, b⟩ := inI_nat (c := 17) (by decide) hw
    exact p_whole0 hC a b hQ
  | false =>
    rw [hw, if_neg (by decide), exO_1] at hQ
    have nw := inI_n (c := 17) (by decide) (by decide) hw
    refine Tr.run sX9_whole (by decide +kernel) rfl 60 fun X => ?_
    exact And.intro (fun z => absurd z (nw 0 (by decide))) (fun _ => And.intro (fun z => absurd z (nw 1 (by decide))) (fun _ => And.intro (fun z => absurd z (nw 2 (by decide))) (fun _ => And.intro (fun z => absurd z (nw 3 (by decide))) (fun _ => And.intro (fun z => absurd z (nw 4 (by decide))) (fun _ => And.intro (fun z => absurd z (nw 5 (by decide))) (fun _ => And.intro (fun z => absurd z (nw 6 (by decide))) (fun _ => And.intro (fun z => absurd z (nw 7 (by decide))) (fun _ => And.intro (fun z => absurd z (nw 8 (by decide))) (fun _ => And.intro (fun z => absurd z (nw 9 (by decide))) (fun _ => And.intro (fun z => absurd z (nw 10 (by decide))) (fun _ => And.intro (fun z => absurd z (nw 11 (by decide))) (fun _ => And.intro (fun z => absurd z (nw 12 (by decide))) (fun _ => And.intro (fun z => absurd z (nw 13 (by decide))) (fun _ => And.intro (fun z => absurd z (nw 14 (by decide))) (fun _ => And.intro (fun z => absurd z (nw 15 (by decide))) (fun _ => And.intro (fun z => absurd z (nw 16 (by decide))) (fun _ => And.intro (fun z => absurd z (nw 17 (by decide))) (fun _ => hQ))))))))))))))))))
/-! the trial -/
theorem cs_copy {S1 L1 : Nat → Int32} {R1 : Nat → Nat → Int32} (hC : CS T s S R L) (hm : s.2.1.length ≤ 12) (hS : ∀ j, j < 4 → S1 j = S j) (hR : ∀ j, j < 5 → ∀ k, k < 12 → R1 j k = R j k) (hL : ∀ k, k < 50 → L1 k = L k) : CS T s S1 R1 L1 := by
  obtain ⟨a, b, w, t, c1, c2, c3, c4, c5⟩ := hC
  refine ⟨fun j hj => (hS j hj).trans (a j hj), fun k r hr j hj => ?_, w, t, c1, c2, c3, c4, c5.1, fun b e he j hj => ?_⟩
  · have := (List.getElem?_eq_some_iff.mp hr).1
    rw [hR j hj k (by omega)]
    exact b k r hr j hj
  · rw [hL _ (by omega)]
    exact c5.2 b e he j hj
theorem Inv.r01 (hI : Inv T s) : s.1 19 = 0 ∨ s.1 19 = 1 := hI.1.2.2.2.2.2.2.2.2.1
