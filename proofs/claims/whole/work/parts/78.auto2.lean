/-! ===== commands by the scan are the commands of the grammar ===== -/
variable {n : Nat} {b B : Nat → Int32} {len : Int32} {c : Scn}
def SEnt (len : Int32) (B b : Nat → Int32) (n : Nat) (wd : UInt32) (ws : Int32) (k : Nat) (p : Nat) (c : Scn) (N : Nat → Int32) : Prop :=
  (isA n b 32 32 p = true → ∃ dg : Int32, SStp len B b n p c (wd, 2, ws, nI k, dg, N)) ∧ (isA n b 32 32 p = false → FC len B n p c = nI p)
theorem one_num (hT : TB len B b n) {wd : UInt32} {ws : Int32} {k need : Nat} (hk : k < need) (hn : need ≤ 3) (hw : wdN wd = nI need) {p : Nat} {N : Nat → Int32} (hE : SEnt len B b n wd ws k p c N) :
    ((numF n b p).1 = true → ∃ (dg1 : Nat) (N1 : Nat → Int32), SSeg len B b n p c (numF n b p).2.1 (wd, 3, ws, nI (k + 1), nI dg1, N1) ∧ isA n b 48 57 (numF n b p).2.1 = false ∧ N1 k = (numF n b p).2.2 ∧ ∀ j, ¬ j = k → N1 j = N j) ∧
    ((numF n b p).1 = false → FC len B n p c = nI (numF n b p).2.1) := by
  cases h : isA n b 32 32 p with
  | false =>
    have e : numF n b p = (false, p, 0) := if_neg (by rw [h]; decide)
    rw [e]
    exact ⟨fun z => (nomatch z), fun _ => hE.2 h⟩
  | true =>
    obtain ⟨dg, st⟩ := hE.1 h
    have hp := (isA_lt h).1
    have hq := runE_step h
    have hq2 : SSeg len B b n (p + 1) (wd, 2, ws, nI k, dg, N) (runE n b 32 32 p) (wd, 2, ws, nI k, dg, N) := by
      rw [hq]
      exact seg_sp2 hT rfl _ _
    have e : numF n b p = (decide (runE n b 32 32 p < spn n b 48 57 4 (runE n b 32 32 p)) && !isA n b 48 57 (spn n b 48 57 4 (runE n b 32 32 p)), spn n b 48 57 4 (runE n b 32 32 p), digV b (runE n b 32 32 p) (spn n b 48 57 4 (runE n b 32 32 p) - runE n b 32 32 p) 0) := if_pos h
    have hstop := runE_stop (n := n) (b := b) (lo := 32) (hi := 32) p
    have hle := runE_le (n := n) (b := b) (lo := 32) (hi := 32) (p := p) (by omega)
    rw [e]
    generalize runE n b 32 32 p = q at *
    obtain ⟨g1, g2⟩ := gap_num hT (ws := ws) hk hn hw (q := q) (dg := dg) (N := N) hle hstop
    refine ⟨fun hb => ?_, fun hb => ?_⟩
    · have hb2 := (Bool.and_eq_true _ _).mp hb
      have b1 : q < spn n b 48 57 4 q := of_decide_eq_true hb2.1
      have b2 : isA n b 48 57 (spn n b 48 57 4 q) = false := by
        have := hb2.2
        cases hx : isA n b 48 57 (spn n b 48 57 4 q) with
        | false => rfl
        | true => rw [hx] at this; cases this
      obtain ⟨dg1, N1, a1, a2, a3⟩ := g1 b1 b2
      exact ⟨dg1, N1, SSeg.tr (SSeg.st st) (SSeg.tr hq2 a1), b2, a2, a3⟩
    · rw [FC_seg (SSeg.tr (SSeg.st st) hq2)]
      refine g2 (fun z => ?_)
      have : (decide (q < spn n b 48 57 4 q) && !isA n b 48 57 (spn n b 48 57 4 q)) = true := by
        rw [decide_eq_true z.1, z.2]
        rfl
      have hb' : (decide (q < spn n b 48 57 4 q) && !isA n b 48 57 (spn n b 48 57 4 q)) = false := hb
      rw [this] at hb'
      cases hb'
theorem num_non {v a : Int32} (h : inI v 48 57 = false) : numC v a c = behC v a c := if_neg (by rw [h]; decide)
theorem gap_non {v a : Int32} (h : inI v 48 57 = false) : gapC v a c = behC v a c := if_neg (by rw [h]; decide)
theorem ent3 (hT : TB len B b n) {wd : UInt32} {ws : Int32} {k need : Nat} (hk : k < need) (hn : need ≤ 3) (hw : wdN wd = nI need) {p dg : Nat} {N : Nat → Int32} (hp : p ≤ n) (hd : isA n b 48 57 p = false) : SEnt len B b n wd ws k p (wd, 3, ws, nI k, nI dg, N) N := by
  have hn150 := hT.2.1
  refine ⟨fun h => ⟨nI dg, ?_⟩, fun h => ?_⟩
  · have hpn := (isA_lt h).1
    have hv := inI_one.mp (isA_lt h).2
    refine ⟨hpn, ?_, by rw [hv]; decide⟩
    rw [take3 hT hpn rfl, num_non (isA_f hpn hd)]
    exact if_pos hv
  · by_cases hpn : p < n
    · refine FC_bad hpn (c1 := (wd, 3, ws, nI k, nI dg, N)) (by omega) ?_
      rw [take3 hT hpn rfl, num_non (isA_f hpn hd)]
      refine beh_bad (isA_ne hpn h) (fun z => ?_)
      have z2 : nI k = nI need := z.2.trans hw
      have := (nI_eq (by omega) (by omega)).mp z2
      omega
    · rw [show p = n by omega, FC_end]
      exact endC_23 (Or.inr rfl)
theorem nums3 (hT : TB len B b n) {wd : UInt32} {ws : Int32} {need : Nat} (hn : need ≤ 3) (hw : wdN wd = nI need) : ∀ (m k p dg : Nat) (N : Nat → Int32), k + m = need → p ≤ n → isA n b 48 57 p = false →
    ((numsF n b m p).1 = true → ∃ (dg1 : Nat) (N1 : Nat → Int32), SSeg len B b n p (wd, 3, ws, nI k, nI dg, N) (numsF n b m p).2.1 (wd, 3, ws, nI need, nI dg1, N1) ∧ isA n b 48 57 (numsF n b m p).2.1 = false ∧ (∀ j, j < m → N1 (k + j) = (numsF n b m p).2.2.getD j 0) ∧ ∀ j, j < k → N1 j = N j) ∧
    ((numsF n b m p).1 = false → FC len B n p (wd, 3, ws, nI k, nI dg, N) = nI (numsF n b m p).2.1)
  | 0, k, p, dg, N, hk, hp, hd => by
    have e : k = need := by omega
    subst e
    exact ⟨fun _ => ⟨dg, N, SSeg.rf, hd, fun j hj => absurd hj (Nat.not_lt_zero _), fun _ _ => rfl⟩, fun z => (nomatch z)⟩
  | m + 1, k, p, dg, N, hk, hp, hd => by
    have hE := ent3 hT (wd := wd) (ws := ws) (k := k) (need := need) (dg := dg) (N := N) (by omega) hn hw hp hd
    obtain ⟨g1, g2⟩ := one_num hT (show k < need by omega) hn hw hE
    cases h : (numF n b p).1 with
    | false =>
      have e : numsF n b (m + 1) p = (false, (numF n b p).2.1, []) := if_neg (by rw [h]; decide)
      rw [e]
      exact ⟨fun z => (nomatch z), fun _ => g2 h⟩
    | true =>
      have e : numsF n b (m + 1) p = ((numsF n b m (numF n b p).2.1).1, (numsF n b m (numF n b p).2.1).2.1, (numF n b p).2.2 :: (numsF n b m (numF n b p).2.1).2.2) := if_pos h
      rw [e]
      obtain ⟨dg1, N1, a1, a2, a3, a4⟩ := g1 h
      obtain ⟨i1, i2⟩ := nums3 hT (wd := wd) (ws := ws) hn hw m (k + 1) (numF n b p).2.1 dg1 N1 (by omega) (numF_b hp).2 a2
      refine ⟨fun hb => ?_, fun hb => ?_⟩
      · obtain ⟨dg2, N2, c1, c2, c3, c4⟩ := i1 hb
        refine ⟨dg2, N2, SSeg.tr a1 c1, c2, fun j hj => ?_, fun j hj => ?_⟩
        · cases j with
          | zero =>
            rw [Nat.add_zero, c4 k (by omega), a3]
            rfl
          | succ j =>
            have := c3 j (by omega)
            rw [show k + 1 + j = k + (j + 1) by omega] at this
            exact this
        · rw [c4 j (by omega), a4 j (by omega)]
      · rw [FC_seg a1]
        exact i2 hb
/-- with all numbers there -/
theorem fin_num (hT : TB len B b n) {wd : UInt32} {ws : Int32} {need : Nat} (hn : need ≤ 3) (hw : wdN wd = nI need) {p dg : Nat} {N : Nat → Int32} (hp : p ≤ n) (hd : isA n b 48 57 p = false) :
    ∃ c1 : Scn, SSeg len B b n p (wd, 3, ws, nI need, nI dg, N) (runE n b 32 32 p) c1 ∧ (c1.1 = wd ∧ c1.2.2.2.2.2 = N) ∧
      (isA n b 59 59 (runE n b 32 32 p) = true → takeC len B (nI (runE n b 32 32 p)) c1 = (-1, setPl c1 0)) ∧ (isA n b 59 59 (runE n b 32 32 p) = false → FC len B n (runE n b 32 32 p) c1 = nI (runE n b 32 32 p)) := by
  have hn150 := hT.2.1
  have hle := runE_le (n := n) (b := b) (lo := 32) (hi := 32) hp
  have hstop := runE_stop (n := n) (b := b) (lo := 32) (hi := 32) p
  cases h : isA n b 32 32 p with
  | false =>
    rw [runE_no h] at hle hstop ⊢
    refine ⟨_, SSeg.rf, ⟨rfl, rfl⟩, fun h59 => ?_, fun h59 => ?_⟩
    · have hpn := (isA_lt h59).1
      have hv := inI_one.mp (isA_lt h59).2
      rw [take3 hT hpn rfl, num_non (isA_f hpn hd)]
      unfold behC
      rw [if_neg (isA_ne hpn h), if_pos hv, if_pos hw.symm]
    · by_cases hpn : p < n
      · refine FC_bad hpn (c1 := (wd, 3, ws, nI need, nI dg, N)) (by omega) ?_
        rw [take3 hT hpn rfl, num_non (isA_f hpn hd)]
        exact beh_bad (isA_ne hpn h) (fun z => isA_ne hpn h59 z.1)
      · rw [show p = n by omega, FC_end]
        exact endC_23 (Or.inr rfl)
  | true =>
    obtain ⟨hpn, hv0⟩ := isA_lt h
    have hv := inI_one.mp hv0
    have st : SStp len B b n p (wd, 3, ws, nI need, nI dg, N) (wd, 2, ws, nI need, nI dg, N) := by
      refine ⟨hpn, ?_, by rw [hv]; decide⟩
      rw [take3 hT hpn rfl, num_non (isA_f hpn hd)]
      exact if_pos hv
    have sg : SSeg len B b n p (wd, 3, ws, nI need, nI dg, N) (runE n b 32 32 p) (wd, 2, ws, nI need, nI dg, N) := by
      refine SSeg.tr (SSeg.st st) ?_
      rw [runE_step h]
      exact seg_sp2 hT rfl _ _
    generalize runE n b 32 32 p = s at *
    refine ⟨_, sg, ⟨rfl, rfl⟩, fun h59 => ?_, fun h59 => ?_⟩
    · have hsn := (isA_lt h59).1
      have hv := inI_one.mp (isA_lt h59).2
      rw [take2 hT hsn rfl, gap_non (by rw [hv]; decide)]
      unfold behC
      rw [if_neg (isA_ne hsn hstop), if_pos hv, if_pos hw.symm]
    · by_cases hsn : s < n
      · refine FC_bad hsn (c1 := (wd, 2, ws, nI need, nI dg, N)) (by omega) ?_
        rw [take2 hT hsn rfl]
        cases hx : inI (b s) 48 57 with
        | true =>
          unfold gapC
          rw [if_pos hx, if_pos (show wdN wd ≤ nI need by rw [hw]; exact Int32.le_refl _)]
        | false =>
          rw [gap_non hx]
          exact beh_bad (isA_ne hsn hstop) (fun z => isA_ne hsn h59 z.1)
      · rw [show s = n by omega, FC_end]
        exact endC_23 (Or.inl rfl)
theorem ofN_0 {k : Nat} (hk : k ≤ 5) : UInt32.ofNat k = 0 ↔ k = 0 := by
  match k, hk with
  | 0, _ => exact ⟨fun _ => rfl, fun _ => rfl⟩
  | 1, _ => exact ⟨fun z => absurd z (by decide), fun z => absurd z (by decide)⟩
  | 2, _ => exact ⟨fun z => absurd z (by decide), fun z => absurd z (by decide)⟩
  | 3, _ => exact ⟨fun z => absurd z (by decide), fun z => absurd z (by decide)⟩
  | 4, _ => exact ⟨fun z => absurd z (by decide), fun z => absurd z (by decide)⟩
  | 5, _ => exact ⟨fun z => absurd z (by decide), fun z => absurd z (by decide)⟩
/-- a command -/
theorem cmd_eq (hT : TB len B b n) {p : Nat} (hp : p < n) (h32 : isA n b 32 32 p = false) (h0 : c.2.1 = 0) :
    ((cmdF n b p).1 = true → ∃ (s : Nat) (c1 c2 : Scn), SSeg len B b n p c s c1 ∧ s < n ∧ b s = 59 ∧ takeC len B (nI s) c1 = (-1, c2) ∧ c2.2.1 = 0 ∧ c2.1 = UInt32.ofNat (cmdF n b p).2.2.1 ∧ (∀ j, j < needN (cmdF n b p).2.2.1 → c2.2.2.2.2.2 j = (cmdF n b p).2.2.2.getD j 0) ∧ (cmdF n b p).2.1 = runE n b 32 32 (s + 1)) ∧
    ((cmdF n b p).1 = false → FC len B n p c = nI (cmdF n b p).2.1) := by
  have hn150 := hT.2.1
  have hle := runE_le (n := n) (b := b) (lo := 97) (hi := 122) (p := p) (by omega)
  have hge := runE_ge (n := n) (b := b) (lo := 97) (hi := 122) p
  have hstop := runE_stop (n := n) (b := b) (lo := 97) (hi := 122) p
  cases hl : isA n b 97 122 p with
  | false =>
    have e : cmdF n b p = (false, p, 0, []) := by
      unfold cmdF
      rw [runE_no hl, cmdN_0]
      exact if_pos rfl
    rw [e]
    refine ⟨fun z => (nomatch z), fun _ => ?_⟩
    refine FC_bad hp (q := p) (c1 := c) (by omega) ?_
    rw [take0 hT hp h0]
    unfold frontC
    rw [if_neg (isA_ne hp h32), if_neg (by rw [isA_f hp hl]; decide)]
  | true =>
    have hv := (isA_lt hl).2
    have st : SStp len B b n p c (c.1, 1, nI p, c.2.2.2) := by
      refine ⟨hp, ?_, fun z => ?_⟩
      · rw [take0 hT hp h0]
        unfold frontC
        rw [if_neg (isA_ne hp h32), if_pos hv]
      · rw [z] at hv
        exact absurd hv (by decide)
    have sg : SSeg len B b n p c (runE n b 97 122 p) (c.1, 1, nI p, c.2.2.2) := by
      refine SSeg.tr (SSeg.st st) ?_
      rw [runE_step hl]
      exact seg_let hT rfl _ _
    have hwd := word_eq hT hge hle
    have hk5 := cmdN_le (b := b) p (runE n b 97 122 p)
    unfold cmdF
    generalize runE n b 97 122 p = q at *
    generalize cmdN b p q = w at *
    have hnp := nI_c (k := p) (by omega)
    have hnq := nI_c (k := q) (by omega)
    by_cases hw0 : w = 0
    · rw [if_pos hw0]
      refine ⟨fun z => (nomatch z), fun _ => ?_⟩
      rw [FC_seg sg]
      have hw00 : wordV len B p q = 0 := by rw [hwd, hw0]; rfl
      by_cases hqn : q < n
      · refine FC_bad hqn (q := p) (c1 := (0, 1, nI p, c.2.2.2)) (by omega) ?_
        rw [take1 hT hqn rfl]
        unfold wordC
        rw [if_neg (by rw [isA_f hqn hstop]; decide)]
        show (if wordV len B (nI p).toNatClampNeg (nI q).toNatClampNeg = 0 then _ else _) = _
        rw [hnp, hnq, if_pos hw00]
      · have e : q = n := by omega
        rw [e, FC_end]
        unfold endC
        rw [if_neg (show ¬ (1 : Int32) = 0 by decide), if_pos rfl]
        show (if wordV len B (nI p).toNatClampNeg n = 0 then _ else _) = _
        rw [hnp, ← e, if_pos hw00]
    · rw [if_neg hw0]
      have hw00 : ¬ wordV len B p q = 0 := by rw [hwd]; exact fun z => hw0 ((ofN_0 hk5).mp z)
      have need3 := needN_3 hk5
      have need1 := needN_1 hk5 hw0
      have hwn := needN_wd hk5
      have hE1 : isA n b 32 32 q = true → SStp len B b n q (c.1, 1, nI p, c.2.2.2) (UInt32.ofNat w, 2, nI p, nI 0, c.2.2.2.2) := by
        intro h
        have hqn := (isA_lt h).1
        have hv2 := inI_one.mp (isA_lt h).2
        refine ⟨hqn, ?_, by rw [hv2]; decide⟩
        rw [take1 hT hqn rfl]
        unfold wordC
        rw [if_neg (by rw [isA_f hqn hstop]; decide)]
        show (if wordV len B (nI p).toNatClampNeg (nI q).toNatClampNeg = 0 then _ else if b q = 32 then ((-1 : Int32), ((wordV len B (nI p).toNatClampNeg (nI q).toNatClampNeg, 2, nI p, 0, c.2.2.2.2) : Scn)) else _) = _
        rw [hnp, hnq, if_neg hw00, if_pos hv2, hwd]
        rfl
      have hE2 : isA n b 32 32 q = false → FC len B n q (c.1, 1, nI p, c.2.2.2) = nI q := by
        intro h
        by_cases hqn : q < n
        · refine FC_bad hqn (c1 := (wordV len B p q, 1, nI p, c.2.2.2)) (by omega) ?_
          rw [take1 hT hqn rfl]
          unfold wordC
          rw [if_neg (by rw [isA_f hqn hstop]; decide)]
          show (if wordV len B (nI p).toNatClampNeg (nI q).toNatClampNeg = 0 then _ else if b q = 32 then _ else (nI q, ((wordV len B (nI p).toNatClampNeg (nI q).toNatClampNeg, 1, nI p, c.2.2.2) : Scn))) = _
          rw [hnp, hnq, if_neg hw00, if_neg (isA_ne hqn h)]
        · have e : q = n := by omega
          rw [e, FC_end]
          unfold endC
          rw [if_neg (show ¬ (1 : Int32) = 0 by decide), if_pos rfl]
          show (if wordV len B (nI p).toNatClampNeg n = 0 then _ else _) = _
          rw [hnp, ← e, if_neg hw00]
      obtain ⟨m, hm⟩ : ∃ m, needN w = m + 1 := ⟨needN w - 1, by omega⟩
      -- the first number, the others, the end
      obtain ⟨g1, g2⟩ := one_num hT (N := c.2.2.2.2.2) need1 need3 hwn (⟨fun h => ⟨c.2.2.2.2.1, hE1 h⟩, hE2⟩ : SEnt len B b n (UInt32.ofNat w) (nI p) 0 q (c.1, 1, nI p, c.2.2.2) c.2.2.2.2.2)
      have main : (numsF n b (needN w) q).1 = true → ∃ (dg1 : Nat) (N1 : Nat → Int32), SSeg len B b n q (c.1, 1, nI p, c.2.2.2) (numsF n b (needN w) q).2.1 (UInt32.ofNat w, 3, nI p, nI (needN w), nI dg1, N1) ∧ isA n b 48 57 (numsF n b (needN w) q).2.1 = false ∧ (∀ j, j < needN w → N1 j = (numsF n b (needN w) q).2.2.getD j 0) := by
        rw [hm]
        cases h : (numF n b q).1 with
        | false =>
          have e : numsF n b (m + 1) q = (false, (numF n b q).2.1, []) := if_neg (by rw [h]; decide)
          rw [e]
          exact fun z => (nomatch z)
        | true =>
          have e : numsF n b (m + 1) q = ((numsF n b m (numF n b q).2.1).1, (numsF n b m (numF n b q).2.1).2.1, (numF n b q).2.2 :: (numsF n b m (numF n b q).2.1).2.2) := if_pos h
          rw [e]
          obtain ⟨dg1, N1, a1, a2, a3, -⟩ := g1 h
          obtain ⟨i1, -⟩ := nums3 hT (wd := UInt32.ofNat w) (ws := nI p) need3 hwn m 1 (numF n b q).2.1 dg1 N1 (by omega) (numF_b hle).2 a2
          intro hb
          obtain ⟨dg2, N2, d1, d2, d3, d4⟩ := i1 hb
          rw [hm] at d1
          refine ⟨dg2, N2, SSeg.tr a1 d1, d2, fun j hj => ?_⟩
          cases j with
          | zero => rw [d4 0 (by decide), a3]; rfl
          | succ j =>
            have := d3 j (by omega)
            rw [show 1 + j = j + 1 by omega] at this
            exact this
      have bad : (numsF n b (needN w) q).1 = false → FC len B n q (c.1, 1, nI p, c.2.2.2) = nI (numsF n b (needN w) q).2.1 := by
        rw [hm]
        cases h : (numF n b q).1 with
        | false =>
          have e : numsF n b (m + 1) q = (false, (numF n b q).2.1, []) := if_neg (by rw [h]; decide)
          rw [e]
          exact fun _ => g2 h
        | true =>
          have e : numsF n b (m + 1) q = ((numsF n b m (numF n b q).2.1).1, (numsF n b m (numF n b q).2.1).2.1, (numF n b q).2.2 :: (numsF n b m (numF n b q).2.1).2.2) := if_pos h
          rw [e]
          obtain ⟨dg1, N1, a1, a2, a3, -⟩ := g1 h
          obtain ⟨-, i2⟩ := nums3 hT (wd := UInt32.ofNat w) (ws := nI p) need3 hwn m 1 (numF n b q).2.1 dg1 N1 (by omega) (numF_b hle).2 a2
          intro hb
          rw [FC_seg a1]
          exact i2 hb
      have hnb := numsF_b (b := b) (needN w) q hle
      generalize numsF n b (needN w) q = t at *
      cases ht : t.1 with
      | false =>
        rw [if_neg (by decide)]
        refine ⟨fun z => (nomatch z), fun _ => ?_⟩
        rw [FC_seg sg]
        exact bad ht
      | true =>
        rw [if_pos rfl]
        obtain ⟨dg1, N1, m1, m2, m3⟩ := main ht
        obtain ⟨c1, f1, ⟨f2, f3⟩, f4, f5⟩ := fin_num hT (ws := nI p) need3 hwn (dg := dg1) (N := N1) hnb.2 m2
        cases h59 : isA n b 59 59 (runE n b 32 32 t.2.1) with
        | false =>
          rw [if_neg (by decide)]
          refine ⟨fun z => (nomatch z), fun _ => ?_⟩
          rw [FC_seg (SSeg.tr sg (SSeg.tr m1 f1))]
          exact f5 h59
        | true =>
          rw [if_pos rfl]
          refine ⟨fun _ => ⟨_, c1, setPl c1 0, SSeg.tr sg (SSeg.tr m1 f1), (isA_lt h59).1, inI_one.mp (isA_lt h59).2, f4 h59, rfl, f2, fun j hj => ?_, rfl⟩, fun z => (nomatch z)⟩
          show c1.2.2.2.2.2 j = _
          rw [f3]
          exact m3 j hj
theorem flt_eq (hT : TB len B b n) : ∀ (d p : Nat) (c : Scn), n - p ≤ d → p ≤ n → isA n b 32 32 p = false → c.2.1 = 0 → FC len B n p c = fltF n b d p
  | 0, p, c, hd, hp, h32, h0 => by
    rw [show p = n by omega, FC_end]
    exact if_pos h0
  | d + 1, p, c, hd, hp, h32, h0 => by
    by_cases hpn : p < n
    · obtain ⟨g1, g2⟩ := cmd_eq hT hpn h32 h0
      have e : fltF n b (d + 1) p = if (cmdF n b p).1 = true then fltF n b d (cmdF n b p).2.1 else nI (cmdF n b p).2.1 := if_pos hpn
      rw [e]
      cases h : (cmdF n b p).1 with
      | false =>
        rw [if_neg (by decide)]
        exact g2 h
      | true =>
        rw [if_pos rfl]
        obtain ⟨s, c1, c2, s1, s2, s3, s4, s5, s6, s7, s8⟩ := g1 h
        have hcb := cmdF_b (b := b) hp
        rw [FC_seg s1, FC_go s2 s4, FC_seg (seg_sp0 hT s5 (n - (s + 1)) (s + 1))]
        have e2 : spn n b 32 32 (n - (s + 1)) (s + 1) = (cmdF n b p).2.1 := s8.symm
        rw [e2]
        refine flt_eq hT d _ c2 (by have := hcb.2.2.1 h; omega) hcb.2.1 ?_ s5
        rw [s8]
        exact runE_stop _
    · have e : fltF n b (d + 1) p = -1 := if_neg hpn
      rw [e, show p = n by omega, FC_end]
      exact if_pos h0
