/-! ===== PlateArm: values of the state ===== -/
variable {Q : AQ} {mc ms T : Nat} {sc : Int32} {S L : Nat → Int32} {R : Nat → Nat → Int32} {rest : AM} {s : Sg}
def IAE : String := "java/lang/IllegalArgumentException"
def ISE : String := "java/lang/IllegalStateException"
def IOE : String := "java/lang/IndexOutOfBoundsException"
def exO (E1 E2 : String) (c v : Int32) : AR := if c = 0 then .inl (some (.int v)) else if c = 1 then .inr E1 else .inr E2
theorem exO_0 {E1 E2 : String} {v : Int32} : exO E1 E2 0 v = .inl (some (.int v)) := if_pos rfl
theorem exO_1 {E1 E2 : String} {v : Int32} : exO E1 E2 1 v = .inr E1 := (if_neg (by decide)).trans (if_pos rfl)
theorem exO_2 {E1 E2 : String} {v : Int32} : exO E1 E2 2 v = .inr E2 := (if_neg (by decide)).trans (if_neg (by decide))
def pwS (sc : Int32) (s : Sg) (S : Nat → Int32) (R : Nat → Nat → Int32) (L : Nat → Int32) (rest : AM) : AM := pw1 sc s.1 (nI s.2.1.length) S R L rest
theorem inI_n {w : Int32} {c : Nat} {hi : Int32} (hh : hi.toInt = c) (hc : c < 100) (h : inI w 0 hi = false) : ∀ j, j ≤ c → ¬ w = nI j := by
  intro j hj z
  have : inI w 0 hi = true := inI_iff.mpr (by rw [z, nI_toInt (by omega), i32_0, hh]; omega)
  rw [h] at this
  cases this
set_option maxRecDepth 20000 in
theorem p_arm0 {w : Int32} {j : Nat} (hI : Inv T s) (hw : w = nI j) (hj : j ≤ 5) (hQ : Q (.inl (some (.int (armV s.1 j)))) (pwS sc s S R L rest)) : Tr tX9_arm mc ms [.ref 0, .int w] (pwS sc s S R L rest) Q := by
  have h1 : ¬ s.1 1 = 0 := toI_ne0 (by have : 3 ≤ (s.1 1).toInt := hI.1.2.1.1; omega)
  have h19 : s.1 19 = 0 ∨ s.1 19 = 1 := hI.1.2.2.2.2.2.2.2.2.1
  have ej : ∀ c : Nat, c < 6 → (w = nI c ↔ j = c) := fun c hc => by rw [hw]; exact nI_eq (by omega) (by omega)
  refine Tr.run sX9_arm (by decide +kernel) rfl 60 fun X => ?_
  unfold armV at hQ
  refine And.intro (fun z => ?_) (fun z0 => And.intro (fun z => ?_) (fun z1 => And.intro (fun z => ?_) (fun z2 => And.intro (fun z => And.intro (fun y => ?_) (fun y => ?_)) (fun z3 => And.intro (fun z => ?_) (fun z4 => And.intro (fun z => ?_) (fun z5 => ?_))))))
  · rw [(ej 0 (by decide)).mp z, if_pos (by decide)] at hQ; exact hQ
  · rw [(ej 1 (by decide)).mp z, if_pos (by decide)] at hQ; exact hQ
  · rw [(ej 2 (by decide)).mp z, if_pos (by decide)] at hQ; exact hQ
  · rw [(ej 3 (by decide)).mp z, if_pos (by decide), show s.1 (16 + 3) = 0 from y] at hQ; exact hQ
  · rw [(ej 3 (by decide)).mp z, if_pos (by decide), show s.1 (16 + 3) = 1 from h19.resolve_left y] at hQ; exact hQ
  · rw [(ej 4 (by decide)).mp z, if_pos (by decide)] at hQ; exact hQ
  · rw [(ej 5 (by decide)).mp z, if_neg (by decide)] at hQ
    refine Tr.ar [1, 2, 3, 4, 5, 6, 7, 8, 9, 10, 11, 12] (c_under (u := s.1) (n := nI s.2.1.length) (S := S) (R := R) (L := L) h1 ?_) rfl rfl rfl
    exact hQ
  · exfalso
    have n0 : ¬ j = 0 := fun y => z0 ((ej 0 (by decide)).mpr y)
    have n1 : ¬ j = 1 := fun y => z1 ((ej 1 (by decide)).mpr y)
    have n2 : ¬ j = 2 := fun y => z2 ((ej 2 (by decide)).mpr y)
    have n3 : ¬ j = 3 := fun y => z3 ((ej 3 (by decide)).mpr y)
    have n4 : ¬ j = 4 := fun y => z4 ((ej 4 (by decide)).mpr y)
    have n5 : ¬ j = 5 := fun y => z5 ((ej 5 (by decide)).mpr y)
    omega
set_option maxRecDepth 20000 in
theorem p_arm {w : Int32} (hI : Inv T s) (hQ : Q (exO IAE IAE (armA w s).1 (armA w s).2) (pwS sc s S R L rest)) : Tr tX9_arm 1 6 [.ref 0, .int w] (pwS sc s S R L rest) Q := by
  unfold armA at hQ
  cases hw : inI w 0 5 with
  | true =>
    rw [hw, if_pos rfl, exO_0] at hQ
    obtain ⟨a, b⟩ := inI_nat (c := 5) (by decide) hw
    exact p_arm0 hI a b hQ
  | false =>
    rw [hw, if_neg (by decide), exO_1] at hQ
    have nw := inI_n (c := 5) (by decide) (by decide) hw
    refine Tr.run sX9_arm (by decide +kernel) rfl 60 fun X => ?_
    exact And.intro (fun z => absurd z (nw 0 (by decide))) (fun _ => And.intro (fun z => absurd z (nw 1 (by decide))) (fun _ => And.intro (fun z => absurd z (nw 2 (by decide))) (fun _ => And.intro (fun z => absurd z (nw 3 (by decide))) (fun _ => And.intro (fun z => absurd z (nw 4 (by decide))) (fun _ => And.intro (fun z => absurd z (nw 5 (by decide))) (fun _ => hQ))))))
theorem rq_row {rs : List Rq} (h : RqOk R rs) {k : Nat} (hk : k < rs.length) {j : Nat} (hj : j < 5) : R j k = rf (rs.getD k d0) j := by
  rw [List.getD_eq_getElem?_getD, List.getElem?_eq_getElem hk]
  exact h k _ (List.getElem?_eq_getElem hk) j hj
set_option maxRecDepth 20000 in
theorem p_requestOf {x w : Int32} (hI : Inv T s) (hC : CS T s S R L) (hQ : Q (exO IOE IAE (requestOfA x w s).1 (requestOfA x w s).2) (pwS sc s S R L rest)) : Tr tX9_requestOf 1 6 [.ref 0, .int x, .int w] (pwS sc s S R L rest) Q := by
  have hm := hI.2.1
  refine Tr.run sX9_requestOf (by decide +kernel) rfl 60 fun X => ?_
  refine Tr.ar [4, 5, 6, 7, 8, 9] (c_indexOf (R := R) (n := s.2.1.length) rfl hm ?_) rfl rfl rfl
  rw [fnd_eq hC.2.1]
  unfold requestOfA at hQ
  cases hf : fndL x s.2.1 with
  | none =>
    rw [hf, exO_1] at hQ
    exact And.intro (fun z => absurd rfl z) (fun _ => hQ)
  | some k =>
    rw [hf] at hQ
    have hk := fndL_lt hf
    refine And.intro (fun _ => ?_) (fun z => absurd z (ix_ne (by omega)))
    cases hw : inI w 0 5 with
    | true =>
      obtain ⟨a, b⟩ := inI_nat (c := 5) (by decide) hw
      have hQ' : Q (exO IOE IAE 0 (toldV s.1 (s.2.1.getD k d0) w.toNatClampNeg)) (pwS sc s S R L rest) := by
        dsimp only at hQ
        rw [hw, if_pos rfl] at hQ
        exact hQ
      rw [exO_0] at hQ'
      refine And.intro (fun z => absurd z (by rw [a]; exact nI_pos (by omega))) (fun _ => And.intro (fun _ => ?_) (fun z => absurd (show w < 6 by rw [a]; exact nI_lt (b := 6) (by omega) (by decide)) z))
      exact p_requestValue (j := w.toNatClampNeg) hC.2.1 rfl hk hm a (by omega) hQ'
    | false =>
      have hQ' : Q (exO IOE IAE 2 0) (pwS sc s S R L rest) := by
        dsimp only at hQ
        rw [hw, if_neg (by decide)] at hQ
        exact hQ
      rw [exO_2] at hQ'
      have nw := inI_n (c := 5) (by decide) (by decide) hw
      refine And.intro (fun _ => hQ') (fun z => And.intro (fun y => ?_) (fun _ => hQ'))
      have g1 := le0.mp (Int32.not_lt.mp z)
      have e6 : ((6 : Int32).toInt) = 6 := by decide
      have g2 := Int32.lt_iff_toInt_lt.mp (show w < 6 from y)
      exact absurd (of_clamp g1) (nw _ (by have : w.toNatClampNeg = w.toInt.toNat := rfl; omega))
set_option maxRecDepth 20000 in
theorem p_requestAt {p : Int32} (hI : Inv T s) (hC : CS T s S R L) (hQ : Q (exO IAE IAE (requestAtA p s).1 (requestAtA p s).2) (pwS sc s S R L rest)) : Tr tX9_requestAt 1 6 [.ref 0, .int p] (pwS sc s S R L rest) Q := by
  have hm := hI.2.1
  refine Tr.run sX9_requestAt (by decide +kernel) rfl 60 fun X => ?_
  unfold requestAtA at hQ
  refine And.intro (fun h => And.intro (fun h2 => ?_) (fun h2 => ?_)) (fun h => ?_)
  · rw [if_neg (Int32.not_lt.mpr h), if_neg (Int32.not_lt.mpr (show nI s.2.1.length ≤ p from h2)), exO_0] at hQ
    exact hQ
  · have h2' : p < nI s.2.1.length := Int32.not_le.mp h2
    have g1 := le0.mp h
    have g2 := Int32.lt_iff_toInt_lt.mp h2'
    rw [nI_toInt (by omega)] at g2
    have hc := of_clamp g1
    have hcn : p.toNatClampNeg = p.toInt.toNat := rfl
    have e0 : R 0 p.toNatClampNeg = (s.2.1.getD p.toNatClampNeg d0).1 := rq_row hC.2.1 (by omega) (by decide)
    rw [if_neg (Int32.not_lt.mpr h), if_pos h2', exO_0, ← e0] at hQ
    exact ⟨by rw [hc]; exact in_nI (by omega) (by decide), hQ⟩
  · rw [if_pos (Int32.not_le.mp h), exO_1] at hQ
    exact hQ
theorem kept_eq {w : Nat} (hw : w < 2 ^ 31) : (if (10 : Int32) < nI w then 10 else nI w) = nI (min w 10) := by
  by_cases h : 10 < w
  · rw [if_pos (show (10 : Int32) < nI w from nI_lt (a := 10) h hw), show min w 10 = 10 by omega]
    rfl
  · rw [if_neg (show ¬ (10 : Int32) < nI w from nI_nlt (a := 10) (by omega) (by decide)), show min w 10 = w by omega]
theorem ring_ix {w b j : Nat} (hw : w < 2 ^ 31) (hb : b < w) (hj : j < 5) : (nI w - 1 - nI b) % 10 * 5 + nI j = nI ((w - 1 - b) % 10 * 5 + j) := by
  rw [show nI w - 1 = nI (w - 1) from sub_nI (a := w) (b := 1) (by omega), sub_nI (by omega), show (10 : Int32) = nI 10 from rfl, show (5 : Int32) = nI 5 from rfl, mod_nI (by omega) (by decide), mul_nI, nI_add]
set_option maxRecDepth 20000 in
theorem p_logged {b w : Int32} (hI : Inv T s) (hC : CS T s S R L) (hT : T < 2 ^ 31) (hQ : Q (exO IAE IAE (loggedA b w s).1 (loggedA b w s).2) (pwS sc s S R L rest)) : Tr tX9_logged 1 6 [.ref 0, .int b, .int w] (pwS sc s S R L rest) Q := by
  obtain ⟨wn, t, c8, c7, cw, ct, cl⟩ := hC.2.2
  refine Tr.of sX9_logged (by decide +kernel) (Nat.le_of_ble_eq_true rfl) fun X hX => ?_
  unfold loggedA at hQ
  have e5 : ((5 : Int32).toInt) = 5 := by decide
  have e4 : ((4 : Int32).toInt) = 4 := by decide
  refine go hX (fun pc => if pc = 32 then some 3 else none) 40 ?_
  refine And.intro (fun h => ?_) (fun h => And.intro (fun h1 => ?_) (fun h1 => And.intro (fun h2 => ?_) (fun h2 => ?_)))
  · rw [if_pos h, exO_1] at hQ
    exact hQ
  · rw [if_neg h, if_neg (by rw [inI_l (Int32.not_le.mpr h1)]; decide), exO_1] at hQ
    exact hQ
  · have g := Int32.lt_iff_toInt_lt.mp (show w < 5 from h2)
    have hw : inI w 0 4 = true := inI_t (Int32.not_lt.mp h1) (Int32.le_iff_toInt_le.mpr (by omega))
    obtain ⟨a, ab⟩ := inI_nat (c := 4) (by decide) hw
    rw [if_neg h, if_pos hw, exO_0] at hQ
    have g1 := le0.mp (Int32.not_lt.mp h)
    have hc := of_clamp g1
    suffices p32 : X 32 [some (.ref 0), some (.int b), some (.int w)] [.int (nI s.2.2.length), .int b] (pwS sc s S R L rest) (1, 6) by
      refine Tr.ar [10, 11] (c_kept (L := L) ?_) rfl rfl rfl
      rw [show (if (10 : Int32) < s.1 8 then 10 else s.1 8) = nI s.2.2.length by rw [c8, kept_eq (by omega), ← cl.1]]
      exact p32
    unfold logV at hQ
    refine go hX (fun _ => none) 40 ?_
    refine And.intro (fun h3 => ?_) (fun h3 => ?_)
    · rw [if_neg (Int32.not_lt.mpr h3)] at hQ
      exact hQ
    · have h3' : b < nI s.2.2.length := Int32.not_le.mp h3
      rw [if_pos h3'] at hQ
      have g3 := Int32.lt_iff_toInt_lt.mp h3'
      have hl10 := hI.rb.2
      rw [nI_toInt (by omega)] at g3
      have hbn : b.toNatClampNeg = b.toInt.toNat := rfl
      have hbl : b.toNatClampNeg < s.2.2.length := by omega
      have hlw := cl.1
      have ix := ring_ix (w := wn) (b := b.toNatClampNeg) (j := w.toNatClampNeg) (by omega) (by omega) (by omega)
      rw [← hc, ← a, ← c8] at ix
      refine Tr.ar [10, 11] (c_valueOf (L := L) ix (by omega) ?_) rfl rfl rfl
      have hv := cl.2 b.toNatClampNeg _ (List.getElem?_eq_getElem hbl) w.toNatClampNeg (by omega)
      rw [List.getD_eq_getElem?_getD, List.getElem?_eq_getElem hbl] at hQ
      have hQ2 : Q (.inl (some (.int (rf (s.2.2[b.toNatClampNeg]) w.toNatClampNeg)))) (pwS sc s S R L rest) := hQ
      rw [← hv] at hQ2
      exact hQ2
  · have g := Int32.not_lt.mp (show ¬ w < 5 from h2)
    have g2 := Int32.le_iff_toInt_le.mp g
    rw [if_neg h, if_neg (by rw [inI_h (fun z => by have := Int32.le_iff_toInt_le.mp z; omega)]; decide), exO_1] at hQ
    exact hQ
