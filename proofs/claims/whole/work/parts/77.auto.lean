/-! ===== the scan byte by byte keeps to the grammar ===== -/
variable {n : Nat} {b B : Nat → Int32} {len : Int32} {c : Scn}
theorem take0 (hT : TB len B b n) {p : Nat} (hp : p < n) (h : c.2.1 = 0) : takeC len B (nI p) c = frontC (b p) (nI p) c := by
  unfold takeC
  rw [if_pos h, byte_in hT hp]
theorem take1 (hT : TB len B b n) {p : Nat} (hp : p < n) (h : c.2.1 = 1) : takeC len B (nI p) c = wordC len B (b p) (nI p) c := by
  unfold takeC
  rw [if_neg (by rw [h]; decide), if_pos h, byte_in hT hp]
theorem take2 (hT : TB len B b n) {p : Nat} (hp : p < n) (h : c.2.1 = 2) : takeC len B (nI p) c = gapC (b p) (nI p) c := by
  unfold takeC
  rw [if_neg (by rw [h]; decide), if_neg (by rw [h]; decide), if_pos h, byte_in hT hp]
theorem take3 (hT : TB len B b n) {p : Nat} (hp : p < n) (h : c.2.1 = 3) : takeC len B (nI p) c = numC (b p) (nI p) c := by
  unfold takeC
  rw [if_neg (by rw [h]; decide), if_neg (by rw [h]; decide), if_neg (by rw [h]; decide), byte_in hT hp]
def SStp (len : Int32) (B b : Nat → Int32) (n p : Nat) (c c1 : Scn) : Prop := p < n ∧ takeC len B (nI p) c = (-1, c1) ∧ ¬ b p = 59
def SSeg (len : Int32) (B b : Nat → Int32) (n p : Nat) (c : Scn) (p1 : Nat) (c1 : Scn) : Prop := ∀ F : Nat → Scn → Prop, (∀ p c c1, SStp len B b n p c c1 → F (p + 1) c1 → F p c) → F p1 c1 → F p c
theorem SSeg.rf {p : Nat} : SSeg len B b n p c p c := fun _ _ h => h
theorem SSeg.tr {p q r : Nat} {c c1 c2 : Scn} (h1 : SSeg len B b n p c q c1) (h2 : SSeg len B b n q c1 r c2) : SSeg len B b n p c r c2 := fun F hs h => h1 F hs (h2 F hs h)
theorem SSeg.st {p : Nat} {c c1 : Scn} (h : SStp len B b n p c c1) : SSeg len B b n p c (p + 1) c1 := fun _ hs h1 => hs _ _ _ h h1
noncomputable def endC (len : Int32) (B : Nat → Int32) (n : Nat) (c : Scn) : Int32 := if c.2.1 = 0 then -1 else if c.2.1 = 1 then (if wordV len B c.2.2.1.toNatClampNeg n = 0 then c.2.2.1 else nI n) else nI n
noncomputable def fltC (len : Int32) (B : Nat → Int32) (n : Nat) : Nat → Nat → Scn → Int32
  | 0, _, c => endC len B n c
  | d + 1, p, c => if (takeC len B (nI p) c).1 = -1 then fltC len B n d (p + 1) (takeC len B (nI p) c).2 else (takeC len B (nI p) c).1
noncomputable def FC (len : Int32) (B : Nat → Int32) (n p : Nat) (c : Scn) : Int32 := fltC len B n (n - p) p c
theorem FC_end : FC len B n n c = endC len B n c := by
  unfold FC
  rw [Nat.sub_self]
  rfl
theorem FC_step {p : Nat} (hp : p < n) : FC len B n p c = if (takeC len B (nI p) c).1 = -1 then FC len B n (p + 1) (takeC len B (nI p) c).2 else (takeC len B (nI p) c).1 := by
  unfold FC
  rw [show n - p = (n - (p + 1)) + 1 by omega]
  rfl
theorem FC_go {p : Nat} {c1 : Scn} (hp : p < n) (h : takeC len B (nI p) c = (-1, c1)) : FC len B n p c = FC len B n (p + 1) c1 := by
  rw [FC_step hp, h, if_pos rfl]
theorem nI_m1 {k : Nat} (hk : k ≤ 150) : ¬ nI k = -1 := ix_ne (k := k) (by omega)
theorem FC_bad {p q : Nat} {c1 : Scn} (hp : p < n) (hq : q ≤ 150) (h : takeC len B (nI p) c = (nI q, c1)) : FC len B n p c = nI q := by
  rw [FC_step hp, h, if_neg (nI_m1 hq)]
theorem FC_seg {p q : Nat} {c1 : Scn} (h : SSeg len B b n p c q c1) : FC len B n p c = FC len B n q c1 :=
  h (fun p c => FC len B n p c = FC len B n q c1) (fun p c c2 hs he => (FC_go hs.1 hs.2.1).trans he) rfl
theorem seg_sp0 (hT : TB len B b n) (h0 : c.2.1 = 0) : ∀ d p : Nat, SSeg len B b n p c (spn n b 32 32 d p) c
  | 0, p => SSeg.rf
  | d + 1, p => by
    cases h : isA n b 32 32 p with
    | false => rw [spn_no h]; exact SSeg.rf
    | true =>
      rw [spn_yes h]
      have hp := (isA_lt h).1
      have hv := inI_one.mp (isA_lt h).2
      refine SSeg.tr (SSeg.st ⟨hp, ?_, by rw [hv]; decide⟩) (seg_sp0 hT h0 d (p + 1))
      rw [take0 hT hp h0]
      exact if_pos hv
theorem seg_let (hT : TB len B b n) (h1 : c.2.1 = 1) : ∀ d p : Nat, SSeg len B b n p c (spn n b 97 122 d p) c
  | 0, p => SSeg.rf
  | d + 1, p => by
    cases h : isA n b 97 122 p with
    | false => rw [spn_no h]; exact SSeg.rf
    | true =>
      rw [spn_yes h]
      have hp := (isA_lt h).1
      have hv := (isA_lt h).2
      refine SSeg.tr (SSeg.st ⟨hp, ?_, fun z => ?_⟩) (seg_let hT h1 d (p + 1))
      · rw [take1 hT hp h1]
        exact if_pos hv
      · rw [z] at hv
        exact absurd hv (by decide)
theorem setPl_eq {p : Int32} (h : c.2.1 = p) : setPl c p = c := by
  obtain ⟨a, q, r⟩ := c
  dsimp only at h
  subst h
  rfl
theorem gap_sp {v a : Int32} (h2 : c.2.1 = 2) (hv : v = 32) : gapC v a c = (-1, c) := by
  subst hv
  unfold gapC behC
  rw [if_neg (by decide), if_pos rfl, setPl_eq h2]
theorem seg_sp2 (hT : TB len B b n) (h2 : c.2.1 = 2) : ∀ d p : Nat, SSeg len B b n p c (spn n b 32 32 d p) c
  | 0, p => SSeg.rf
  | d + 1, p => by
    cases h : isA n b 32 32 p with
    | false => rw [spn_no h]; exact SSeg.rf
    | true =>
      rw [spn_yes h]
      have hp := (isA_lt h).1
      have hv := inI_one.mp (isA_lt h).2
      refine SSeg.tr (SSeg.st ⟨hp, ?_, by rw [hv]; decide⟩) (seg_sp2 hT h2 d (p + 1))
      rw [take2 hT hp h2]
      exact gap_sp h2 hv
theorem i32_0 : ((0 : Int32).toInt) = 0 := by decide
theorem nI_c {k : Nat} (hk : k ≤ 150) : (nI k).toNatClampNeg = k := nI_clamp (by omega)
theorem num_dig {v a : Int32} {wd : UInt32} {ws : Int32} {k dg : Nat} {N : Nat → Int32} (hv : inI v 48 57 = true) (hk : k < 3) (hd : dg < 4) : numC v a (wd, 3, ws, nI (k + 1), nI dg, N) = (-1, (wd, 3, ws, nI (k + 1), nI (dg + 1), upd N k (10 * N k + v - 48))) := by
  unfold numC
  rw [if_pos hv]
  have e : (nI (k + 1) - 1).toNatClampNeg = k := by rw [nI_pred]; exact nI_c (by omega)
  rw [if_neg (show ¬ (4 : Int32) ≤ nI dg from nI_ge (b := 4) hd (by decide)), if_pos (show (1 : Int32) ≤ nI (k + 1) from nI_le (a := 1) (by omega) (by omega))]
  show ((-1 : Int32), ((wd, 3, ws, nI (k + 1), nI dg + 1, upd N (nI (k + 1) - 1).toNatClampNeg (10 * N (nI (k + 1) - 1).toNatClampNeg + v - 48)) : Scn)) = _
  rw [e, nI_1]
theorem seg_dig (hT : TB len B b n) {wd : UInt32} {ws : Int32} {k : Nat} (hk : k < 3) : ∀ (d p dg : Nat) (N : Nat → Int32), dg + d = 4 → 1 ≤ dg → ∃ N1, SSeg len B b n p (wd, 3, ws, nI (k + 1), nI dg, N) (spn n b 48 57 d p) (wd, 3, ws, nI (k + 1), nI (dg + (spn n b 48 57 d p - p)), N1) ∧ N1 k = digV b p (spn n b 48 57 d p - p) (N k) ∧ ∀ j, ¬ j = k → N1 j = N j
  | 0, p, dg, N, _, _ => ⟨N, by rw [show spn n b 48 57 0 p = p from rfl, Nat.sub_self]; exact SSeg.rf, by rw [show spn n b 48 57 0 p = p from rfl, Nat.sub_self]; rfl, fun _ _ => rfl⟩
  | d + 1, p, dg, N, h4, h1 => by
    cases h : isA n b 48 57 p with
    | false =>
      rw [spn_no h, Nat.sub_self]
      exact ⟨N, SSeg.rf, rfl, fun _ _ => rfl⟩
    | true =>
      rw [spn_yes h]
      have hp := (isA_lt h).1
      have hv := (isA_lt h).2
      obtain ⟨N1, a1, a2, a3⟩ := seg_dig hT (wd := wd) (ws := ws) hk d (p + 1) (dg + 1) (upd N k (10 * N k + b p - 48)) (by omega) (by omega)
      have hge := spn_ge (n := n) (b := b) (lo := 48) (hi := 57) d (p + 1)
      have e1 : dg + 1 + (spn n b 48 57 d (p + 1) - (p + 1)) = dg + (spn n b 48 57 d (p + 1) - p) := by omega
      have e2 : spn n b 48 57 d (p + 1) - p = (spn n b 48 57 d (p + 1) - (p + 1)) + 1 := by omega
      rw [e1] at a1
      refine ⟨N1, SSeg.tr (SSeg.st ⟨hp, ?_, fun z => ?_⟩) a1, ?_, fun j hj => (a3 j hj).trans (upd_o hj)⟩
      · rw [take3 hT hp rfl]
        exact num_dig hv hk (by omega)
      · rw [z] at hv
        exact absurd hv (by decide)
      · rw [a2, upd_i, e2]
        rfl
theorem needN_wd {k : Nat} (hk : k ≤ 5) : wdN (UInt32.ofNat k) = nI (needN k) := by
  match k, hk with
  | 0, _ => rfl
  | 1, _ => rfl
  | 2, _ => rfl
  | 3, _ => rfl
  | 4, _ => rfl
  | 5, _ => rfl
theorem needN_3 {k : Nat} (hk : k ≤ 5) : needN k ≤ 3 := by
  match k, hk with
  | 0, _ => decide
  | 1, _ => decide
  | 2, _ => decide
  | 3, _ => decide
  | 4, _ => decide
  | 5, _ => decide
theorem needN_1 {k : Nat} (hk : k ≤ 5) (h0 : ¬ k = 0) : 1 ≤ needN k := by
  match k, hk with
  | 0, _ => exact absurd rfl h0
  | 1, _ => decide
  | 2, _ => decide
  | 3, _ => decide
  | 4, _ => decide
  | 5, _ => decide
/-- what stands behind a number, or in a gap, and is neither a space nor, with all numbers there, the end -/
theorem beh_bad {v a : Int32} (h32 : ¬ v = 32) (h : ¬ (v = 59 ∧ c.2.2.2.1 = wdN c.1)) : behC v a c = (a, c) := by
  unfold behC
  rw [if_neg h32]
  by_cases h59 : v = 59
  · rw [if_pos h59, if_neg (fun z => h ⟨h59, z⟩)]
  · rw [if_neg h59]
theorem isA_f {lo hi : Int32} {p : Nat} (hp : p < n) (h : isA n b lo hi p = false) : inI (b p) lo hi = false := by rw [← isA_in hp]; exact h
theorem isA_ne {v : Int32} {p : Nat} (hp : p < n) (h : isA n b v v p = false) : ¬ b p = v := fun z => by
  have := isA_f hp h
  rw [inI_one.mpr z] at this
  cases this
theorem endC_23 (h : c.2.1 = 2 ∨ c.2.1 = 3) : endC len B n c = nI n := by
  unfold endC
  rcases h with h | h
  · rw [if_neg (by rw [h]; decide), if_neg (by rw [h]; decide)]
  · rw [if_neg (by rw [h]; decide), if_neg (by rw [h]; decide)]
/-- a number out of a gap -/
theorem gap_num (hT : TB len B b n) {wd : UInt32} {ws : Int32} {k need : Nat} (hk : k < need) (hn : need ≤ 3) (hw : wdN wd = nI need) {q : Nat} {dg : Int32} {N : Nat → Int32} (hq : q ≤ n) (hs : isA n b 32 32 q = false) :
    (q < spn n b 48 57 4 q → isA n b 48 57 (spn n b 48 57 4 q) = false → ∃ (dg1 : Nat) (N1 : Nat → Int32), SSeg len B b n q (wd, 2, ws, nI k, dg, N) (spn n b 48 57 4 q) (wd, 3, ws, nI (k + 1), nI dg1, N1) ∧ N1 k = digV b q (spn n b 48 57 4 q - q) 0 ∧ ∀ j, ¬ j = k → N1 j = N j) ∧
    (¬ (q < spn n b 48 57 4 q ∧ isA n b 48 57 (spn n b 48 57 4 q) = false) → FC len B n q (wd, 2, ws, nI k, dg, N) = nI (spn n b 48 57 4 q)) := by
  have hn150 := hT.2.1
  have hge := spn_ge (n := n) (b := b) (lo := 48) (hi := 57) 4 q
  have hle := spn_le (n := n) (b := b) (lo := 48) (hi := 57) 4 q hq
  cases h : isA n b 48 57 q with
  | false =>
    rw [spn_no h]
    refine ⟨fun z => absurd z (Nat.lt_irrefl _), fun _ => ?_⟩
    by_cases hqn : q < n
    · refine FC_bad (q := q) (c1 := (wd, 2, ws, nI k, dg, N)) hqn (by omega) ?_
      rw [take2 hT hqn rfl]
      unfold gapC
      rw [if_neg (by rw [isA_f hqn h]; decide)]
      refine beh_bad (isA_ne hqn hs) (fun z => ?_)
      have z2 : nI k = nI need := z.2.trans hw
      have := (nI_eq (by omega) (by omega)).mp z2
      omega
    · have e : q = n := by omega
      subst e
      rw [FC_end]
      exact endC_23 (Or.inl rfl)
  | true =>
    have hqn := (isA_lt h).1
    have hv := (isA_lt h).2
    have st : SStp len B b n q (wd, 2, ws, nI k, dg, N) (wd, 3, ws, nI (k + 1), nI 1, upd N k (b q - 48)) := by
      refine ⟨hqn, ?_, fun z => ?_⟩
      · rw [take2 hT hqn rfl]
        unfold gapC
        rw [if_pos hv, if_neg (by show ¬ wdN wd ≤ nI k; rw [hw]; exact nI_ge hk (by omega)), if_neg (show ¬ (3 : Int32) ≤ nI k from nI_ge (b := 3) (by omega) (by decide))]
        show ((-1 : Int32), ((wd, 3, ws, nI k + 1, 1, upd N (nI k).toNatClampNeg (b q - 48)) : Scn)) = _
        rw [nI_c (by omega), nI_1]
        rfl
      · rw [z] at hv
        exact absurd hv (by decide)
    rw [spn_yes h] at hge hle ⊢
    have hge2 := spn_ge (n := n) (b := b) (lo := 48) (hi := 57) 3 (q + 1)
    have hd := spn_d (n := n) (b := b) (lo := 48) (hi := 57) 3 (q + 1)
    obtain ⟨N1, a1, a2, a3⟩ := seg_dig hT (wd := wd) (ws := ws) (show k < 3 by omega) 3 (q + 1) 1 (upd N k (b q - 48)) (by decide) (Nat.le_refl _)
    generalize he : spn n b 48 57 3 (q + 1) = e at *
    refine ⟨fun _ hf => ⟨_, N1, SSeg.tr (SSeg.st st) a1, ?_, fun j hj => (a3 j hj).trans (upd_o hj)⟩, fun hb => ?_⟩
    · rw [a2, upd_i, show e - q = (e - (q + 1)) + 1 by omega]
      show _ = digV b (q + 1) (e - (q + 1)) (10 * 0 + b q - 48)
      rw [Int32.mul_zero, Int32.zero_add]
    · have ht : isA n b 48 57 e = true := by
        cases hx : isA n b 48 57 e with
        | true => rfl
        | false => exact absurd ⟨by omega, hx⟩ hb
      have he4 : e = q + 4 := by
        rcases Nat.lt_or_ge e (q + 4) with hlt | hlt
        · have := spn_full (n := n) (b := b) (lo := 48) (hi := 57) 3 (q + 1) (by rw [he]; omega)
          rw [he, ht] at this
          cases this
        · omega
      rw [FC_seg (SSeg.tr (SSeg.st st) a1)]
      have hen := (isA_lt ht).1
      refine FC_bad hen (c1 := (wd, 3, ws, nI (k + 1), nI (1 + (e - (q + 1))), N1)) (by omega) ?_
      rw [take3 hT hen rfl]
      unfold numC
      rw [if_pos (isA_lt ht).2, if_pos (show (4 : Int32) ≤ nI (1 + (e - (q + 1))) from nI_le (a := 4) (by omega) (by omega))]
