/-! ===== PlateArm: commands carried out ===== -/
variable {Q : AQ} {mc ms T n : Nat} {S L B b : Nat → Int32} {R fc : Nat → Nat → Int32} {s : Sg} {c : Scn} {f : Nat → Option Nat} {tw : Wd} {wn : Nat → Wd} {a : Kp} {M : AM} {ps : List Sg}
def bZ (x : Int32) : Int32 := z01 (x = 0)
theorem bZ_0 : bZ 0 = 1 := z01_t rfl
theorem bZ_n {x : Int32} (h : ¬ x = 0) : bZ x = 0 := z01_f h
theorem bZ_1 : bZ 1 = 0 := bZ_n (by decide)
theorem bZ_2 : bZ 2 = 0 := bZ_n (by decide)
/-- the world of a state with what is saved -/
def PX (a : Kp) (S : Nat → Int32) (R : Nat → Nat → Int32) (L : Nat → Int32) (tw : Wd) (f : Nat → Option Nat) (fc : Nat → Nat → Int32) (n : Nat) (B : Nat → Int32) (c : Scn) (wn : Nat → Wd) : AM := p5 (nI a.2.length) a.1 S R L tw f fc (nI n) B c (wins wn)
set_option maxRecDepth 20000 in
theorem p_coPlate {t c1 : Int32} (hC : CS T a.1 S R L) (hQ : ∀ S1 R1 L1, CS T (plateA false t c1 a).2.2.1 S1 R1 L1 → Q (.inl (some (.int (bZ (plateA false t c1 a).1)))) (PX (plateA false t c1 a).2.2 S1 R1 L1 tw f fc n B c wn)) : Tr tX9_carryOutPlate mc ms [.ref 0, .int t, .int c1] (PX a S R L tw f fc n B c wn) Q := by
  refine Tr.of sX9_carryOutPlate (by decide +kernel) (Nat.le_of_ble_eq_true rfl) fun X hX => ?_
  unfold plateA at hQ
  have p10 : plateFit t c1 = true → X 10 [some (.ref 0), some (.int t), some (.int c1)] [] (PX a S R L tw f fc n B c wn) (mc, ms) := by
    intro hf
    rw [if_pos hf, bZ_0] at hQ
    refine go hX (fun _ => none) 40 ?_
    refine Tr.ap eS pS (c_putIn (u := a.1.1) (n := nI a.1.2.1.length) (S := S) (R := R) (L := L) (t := t) (c := c1) ?_) rfl rfl rfl rfl
    exact ⟨rfl, hQ S R L (cs_put hC)⟩
  refine go hX (fun pc => if pc = 10 then some 3 else none) 40 ?_
  refine p_plateFits ?_
  cases hf : plateFit t c1 with
  | true => exact And.intro (fun _ => p10 hf) (fun z => absurd z (by decide))
  | false =>
    rw [hf, if_neg (by decide), bZ_1] at hQ
    exact And.intro (fun z => absurd rfl z) (fun _ => ⟨rfl, hQ S R L hC⟩)
set_option maxRecDepth 20000 in
theorem p_coRead {tr se de : Int32} (hI : Inv T a.1) (hC : CS T a.1 S R L) (hQ : ∀ S1 R1 L1, CS (T + 1) (requestA false tr se de a).2.2.1 S1 R1 L1 → Q (.inl (some (.int (bZ (requestA false tr se de a).1)))) (PX (requestA false tr se de a).2.2 S1 R1 L1 tw f fc n B c wn)) : Tr tX9_carryOutRead mc ms [.ref 0, .int tr, .int se, .int de] (PX a S R L tw f fc n B c wn) Q := by
  have hm := hI.2.1
  refine Tr.of sX9_carryOutRead (by decide +kernel) (Nat.le_of_ble_eq_true rfl) fun X hX => ?_
  unfold requestA at hQ
  have p25 : reqFit a.1.1 tr se de = true → ¬ a.1.2.1.length = 12 → X 25 [some (.ref 0), some (.int tr), some (.int se), some (.int de)] [] (PX a S R L tw f fc n B c wn) (mc, ms) := by
    intro hf h12
    rw [if_pos hf, if_neg h12, bZ_0] at hQ
    have hq := hQ S _ L (cs_add (tr := tr) (se := se) (de := de) hC)
    unfold PX p5 pw2 pwS addS at hq
    rw [List.length_append, List.length_singleton, ← nI_1] at hq
    refine go hX (fun _ => none) 40 ?_
    refine Tr.ap eR pR (c_add (R := R) (n := a.1.2.1.length) rfl (by omega) ?_) rfl rfl rfl rfl
    exact ⟨rfl, hq⟩
  have p10 : reqFit a.1.1 tr se de = true → X 10 [some (.ref 0), some (.int tr), some (.int se), some (.int de)] [] (PX a S R L tw f fc n B c wn) (mc, ms) := by
    intro hf
    refine go hX (fun pc => if pc = 25 then some 4 else none) 40 ?_
    refine Tr.ap eR pR (c_isFull (R := R) ?_) rfl rfl rfl rfl
    by_cases h12 : a.1.2.1.length = 12
    · rw [z01_t (show (12 : Int32) ≤ nI a.1.2.1.length by rw [h12]; decide)]
      rw [if_pos hf, if_pos h12, bZ_2] at hQ
      exact And.intro (fun z => absurd z (by decide)) (fun _ => ⟨rfl, hQ S R L (hC.mono (Nat.le_succ T))⟩)
    · rw [z01_f (show ¬ (12 : Int32) ≤ nI a.1.2.1.length from nI_ge (b := 12) (by omega) (by decide))]
      exact And.intro (fun _ => p25 hf h12) (fun z => absurd rfl z)
  refine go hX (fun pc => if pc = 10 then some 4 else none) 40 ?_
  refine p_requestFits hI.p01.1 hI.p01.2 ?_
  cases hf : reqFit a.1.1 tr se de with
  | true => exact And.intro (fun z => absurd z (by decide)) (fun _ => p10 hf)
  | false =>
    rw [hf, if_neg (by decide), bZ_1] at hQ
    exact And.intro (fun _ => ⟨rfl, hQ S R L (hC.mono (Nat.le_succ T))⟩) (fun z => absurd rfl z)
set_option maxRecDepth 20000 in
theorem p_coCancel {x : Int32} (hI : Inv T a.1) (hC : CS T a.1 S R L) (hQ : ∀ S1 R1 L1, CS T (cancelA false x a).2.2.1 S1 R1 L1 → Q (.inl (some (.int (bZ (cancelA false x a).1)))) (PX (cancelA false x a).2.2 S1 R1 L1 tw f fc n B c wn)) : Tr tX9_carryOutCancel mc ms [.ref 0, .int x] (PX a S R L tw f fc n B c wn) Q := by
  have hm := hI.2.1
  refine Tr.of sX9_carryOutCancel (by decide +kernel) (Nat.le_of_ble_eq_true rfl) fun X hX => ?_
  unfold cancelA at hQ
  have p19 : ∀ k, fndL x a.1.2.1 = some k → X 19 [some (.ref 0), some (.int x), some (.int (nI k))] [] (PX a S R L tw f fc n B c wn) (mc, ms) := by
    intro k hf
    have hk := fndL_lt hf
    rw [hf, bZ_0] at hQ
    refine go hX (fun _ => none) 60 ?_
    refine Tr.ap eR pR (c_removeAt (R := R) (n := a.1.2.1.length) (x := k) rfl hm rfl hk (fun R1 hR1 => ?_)) rfl rfl rfl rfl
    have hq := hQ S R1 L (cs_drop hC hk hR1)
    unfold PX p5 pw2 pwS at hq
    rw [dropAt_len hk, ← sub_nI (a := a.1.2.1.length) (b := 1) (by omega)] at hq
    exact ⟨rfl, hq⟩
  refine go hX (fun pc => if pc = 19 then some 3 else none) 40 ?_
  refine Tr.ap eR pR (c_indexOf (R := R) (n := a.1.2.1.length) rfl hm ?_) rfl rfl rfl rfl
  rw [fnd_eq hC.2.1]
  cases hf : fndL x a.1.2.1 with
  | none =>
    rw [hf, bZ_1] at hQ
    exact And.intro (fun z => absurd rfl z) (fun _ => ⟨rfl, hQ S R L hC⟩)
  | some k =>
    have hk := fndL_lt hf
    exact And.intro (fun _ => p19 k hf) (fun z => absurd z (ix_ne (by omega)))
set_option maxRecDepth 20000 in
theorem p_coSet {w v : Int32} (hC : CS T a.1 S R L) (hQ : ∀ S1 R1 L1, CS T (setA false w v a).2.2.1 S1 R1 L1 → Q (.inl (some (.int (bZ (setA false w v a).1)))) (PX (setA false w v a).2.2 S1 R1 L1 tw f fc n B c wn)) : Tr tX9_carryOutSet mc ms [.ref 0, .int w, .int v] (PX a S R L tw f fc n B c wn) Q := by
  refine Tr.of sX9_carryOutSet (by decide +kernel) (Nat.le_of_ble_eq_true rfl) fun X hX => ?_
  unfold setA at hQ
  have p10 : setFit w v = true → X 10 [some (.ref 0), some (.int w), some (.int v)] [] (PX a S R L tw f fc n B c wn) (mc, ms) := by
    intro hf
    rw [if_pos hf, bZ_0] at hQ
    obtain ⟨j, hj, hw, hwn⟩ := setFit_w hf
    have v0 : vp_in w 4 := by rw [hw]; exact in_nI hj (by decide)
    rw [hwn] at hQ
    have hq := hQ (upd S j v) R L (cs_set (v := v) hC hj)
    refine go hX (fun _ => none) 40 ?_
    refine ⟨v0, ?_⟩
    rw [hwn]
    match j, hj, hq with
    | 0, _, hq => exact ⟨rfl, hq⟩
    | 1, _, hq => exact ⟨rfl, hq⟩
    | 2, _, hq => exact ⟨rfl, hq⟩
    | 3, _, hq => exact ⟨rfl, hq⟩
  refine go hX (fun pc => if pc = 10 then some 3 else none) 40 ?_
  refine p_settingFits ?_
  cases hf : setFit w v with
  | true => exact And.intro (fun _ => p10 hf) (fun z => absurd z (by decide))
  | false =>
    rw [hf, if_neg (by decide), bZ_1] at hQ
    exact And.intro (fun z => absurd rfl z) (fun _ => ⟨rfl, hQ S R L hC⟩)
set_option maxRecDepth 20000 in
theorem p_coTicks {t : Int32} (hI : Inv T a.1) (hTT : T + 12 < 2 ^ 31) (hC : CS T a.1 S R L) (hQ : ∀ S1 R1 L1, CS T (passA false t a).2.2.1 S1 R1 L1 → Q (.inl (some (.int (bZ (passA false t a).1)))) (PX (passA false t a).2.2 S1 R1 L1 tw f fc n B c wn)) : Tr tX9_carryOutTicks mc ms [.ref 0, .int t] (PX a S R L tw f fc n B c wn) Q := by
  refine Tr.of sX9_carryOutTicks (by decide +kernel) (Nat.le_of_ble_eq_true rfl) fun X hX => ?_
  unfold passA at hQ
  have p17 : inI t 1 99 = true → a.1.1 6 + t ≤ 9999 → X 17 [some (.ref 0), some (.int t)] [] (PX a S R L tw f fc n B c wn) (mc, ms) := by
    intro h1 h2
    rw [if_pos h1, if_pos h2, bZ_0] at hQ
    have g := inI_iff.mp h1
    have e99 := litI.2.2.2.2.2.2.2.2.2
    rw [i32_1, e99] at g
    have hc := of_clamp (v := t) (by omega)
    have hcn : t.toNatClampNeg = t.toInt.toNat := rfl
    refine go hX (fun _ => none) 40 ?_
    refine Tr.ap eS pS (c_passTicks (s := a.1) (S := S) (R := R) (L := L) (k := t.toNatClampNeg) hc (by omega) hI hTT hC (fun R1 L1 hC1 => ?_)) rfl rfl rfl rfl
    exact ⟨rfl, hQ S R1 L1 hC1⟩
  have p7 : inI t 1 99 = true → X 7 [some (.ref 0), some (.int t)] [] (PX a S R L tw f fc n B c wn) (mc, ms) := by
    intro h1
    refine go hX (fun pc => if pc = 17 then some 2 else none) 40 ?_
    refine p_timeIsLeft ?_
    by_cases h2 : a.1.1 6 + t ≤ 9999
    · rw [z01_t h2]
      exact And.intro (fun _ => p17 h1 h2) (fun z => absurd z (by decide))
    · rw [if_pos h1, if_neg h2, bZ_2] at hQ
      rw [z01_f h2]
      exact And.intro (fun z => absurd rfl z) (fun _ => ⟨rfl, hQ S R L hC⟩)
  refine go hX (fun pc => if pc = 7 then some 2 else none) 40 ?_
  refine p_ticksFit ?_
  cases h1 : inI t 1 99 with
  | true => exact And.intro (fun z => absurd z (by decide)) (fun _ => p7 h1)
  | false =>
    rw [h1, if_neg (by decide), bZ_1] at hQ
    exact And.intro (fun _ => ⟨rfl, hQ S R L hC⟩) (fun z => absurd rfl z)
set_option maxRecDepth 20000 in
theorem x_ordinal {u : UInt32} (hu : Wd6 u) (hQ : Q (.inl (some (.int (nI u.toNat)))) M) : Tr tJx29ce0_ordinal_8abf5 mc ms [.float u] M Q := by
  rcases hu with rfl | rfl | rfl | rfl | rfl | rfl <;>
  · refine Tr.run sJx29ce0_ordinal_8abf5 (by decide +kernel) rfl 30 fun X => ?_
    exact hQ
theorem keep_f (a : Kp) : keepK false a = a.2 := rfl
theorem do_2 (u : UInt32) (N : Nat → Int32) (a : Kp) : (doA u N a).2.2 = a.2 := by
  unfold doA
  split
  · unfold plateA; split <;> rfl
  · split
    · unfold requestA
      split
      · split <;> rfl
      · rfl
    · split
      · unfold cancelA; split <;> rfl
      · split
        · unfold setA; split <;> rfl
        · split
          · unfold passA
            split
            · split <;> rfl
            · rfl
          · rfl
theorem do_1 (u : UInt32) (N : Nat → Int32) (a a1 : Kp) (h : a.1 = a1.1) : (doA u N a).2.1 = (doA u N a1).2.1 := by
  obtain ⟨x, p⟩ := a
  obtain ⟨y, q⟩ := a1
  dsimp only at h
  subst h
  unfold doA
  split
  · unfold plateA; split <;> rfl
  · split
    · unfold requestA
      dsimp only
      split
      · split <;> rfl
      · rfl
    · split
      · unfold cancelA
        dsimp only
        split <;> rfl
      · split
        · unfold setA; split <;> rfl
        · split
          · unfold passA
            dsimp only
            split
            · split <;> rfl
            · rfl
          · rfl
set_option maxRecDepth 20000 in
theorem p_carryOut {u : UInt32} (hu : Wd6 u) (hI : Inv T a.1) (hTT : T + 12 < 2 ^ 31) (hC : CS T a.1 S R L) (hQ : ∀ S1 R1 L1, CS (T + 1) (doA u c.2.2.2.2.2 a).2.1 S1 R1 L1 → Q (.inl (some (.int (bZ (doA u c.2.2.2.2.2 a).1)))) (PX (doA u c.2.2.2.2.2 a).2 S1 R1 L1 tw f fc n B c wn)) : Tr tX9_carryOut mc ms [.ref 0, .float u, .ref 34] (PX a S R L tw f fc n B c wn) Q := by
  have up : ∀ {x : Sg} {S1 : Nat → Int32} {R1 : Nat → Nat → Int32} {L1 : Nat → Int32}, CS T x S1 R1 L1 → CS (T + 1) x S1 R1 L1 := fun h => h.mono (Nat.le_succ T)
  refine Tr.of sX9_carryOut (by decide +kernel) (Nat.le_of_ble_eq_true rfl) fun X hX => ?_
  have p7 : X 7 [some (.ref 0), some (.float u), some (.ref 34)] [.int (nI u.toNat), .float 20] (PX a S R L tw f fc n B c wn) (mc, ms) := by
    rcases hu with e | e | e | e | e | e <;> subst e
    · rw [doA_0, bZ_1] at hQ
      refine go hX (fun _ => none) 40 ?_
      exact ⟨in_lit (by decide), And.intro (fun z => absurd z (by decide)) (fun _ => And.intro (fun z => absurd z (by decide)) (fun _ => And.intro (fun z => absurd z (by decide)) (fun _ => And.intro (fun z => absurd z (by decide)) (fun _ => And.intro (fun z => absurd z (by decide)) (fun _ => ⟨rfl, hQ S R L (up hC)⟩)))))⟩
    · rw [doA_1] at hQ
      refine go hX (fun _ => none) 40 ?_
      refine ⟨in_lit (by decide), And.intro (fun _ => ⟨in_lit (by decide), in_lit (by decide), ?_⟩) (fun z => absurd (by decide) z)⟩
      refine p_coPlate hC (fun S1 R1 L1 h1 => ?_)
      exact ⟨z01_and, hQ S1 R1 L1 (up h1)⟩
    · rw [doA_2] at hQ
      refine go hX (fun _ => none) 40 ?_
      refine ⟨in_lit (by decide), And.intro (fun z => absurd z (by decide)) (fun _ => And.intro (fun _ => ⟨in_lit (by decide), in_lit (by decide), in_lit (by decide), ?_⟩) (fun z => absurd (by decide) z))⟩
      refine p_coRead hI hC (fun S1 R1 L1 h1 => ?_)
      exact ⟨z01_and, hQ S1 R1 L1 h1⟩
    · rw [doA_3] at hQ
      refine go hX (fun _ => none) 40 ?_
      refine ⟨in_lit (by decide), And.intro (fun z => absurd z (by decide)) (fun _ => And.intro (fun z => absurd z (by decide)) (fun _ => And.intro (fun _ => ⟨in_lit (by decide), ?_⟩) (fun z => absurd (by decide) z)))⟩
      refine p_coCancel hI hC (fun S1 R1 L1 h1 => ?_)
      exact ⟨z01_and, hQ S1 R1 L1 (up h1)⟩
    · rw [doA_4] at hQ
      refine go hX (fun _ => none) 40 ?_
      refine ⟨in_lit (by decide), And.intro (fun z => absurd z (by decide)) (fun _ => And.intro (fun z => absurd z (by decide)) (fun _ => And.intro (fun z => absurd z (by decide)) (fun _ => And.intro (fun _ => ⟨in_lit (by decide), in_lit (by decide), ?_⟩) (fun z => absurd (by decide) z))))⟩
      refine p_coSet hC (fun S1 R1 L1 h1 => ?_)
      exact ⟨z01_and, hQ S1 R1 L1 (up h1)⟩
    · rw [doA_5] at hQ
      refine go hX (fun _ => none) 40 ?_
      refine ⟨in_lit (by decide), And.intro (fun z => absurd z (by decide)) (fun _ => And.intro (fun z => absurd z (by decide)) (fun _ => And.intro (fun z => absurd z (by decide)) (fun _ => And.intro (fun z => absurd z (by decide)) (fun _ => And.intro (fun _ => ⟨in_lit (by decide), ?_⟩) (fun z => absurd (by decide) z)))))⟩
      refine p_coTicks hI hTT hC (fun S1 R1 L1 h1 => ?_)
      exact ⟨z01_and, hQ S1 R1 L1 (up h1)⟩
  have hu2 := hu
  rcases hu with e | e | e | e | e | e <;> subst e
  all_goals
    refine go hX (fun pc => if pc = 7 then some 3 else none) 40 ?_
    refine x_ordinal hu2 ?_
    exact p7
