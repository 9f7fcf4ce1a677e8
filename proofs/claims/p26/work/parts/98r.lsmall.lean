/-! ===== p26's law: its small methods; runs of ticks ===== -/
variable {Q : AQ} {T t : Nat} {s : Sg} {G Qa La : Nat → Int32} {M : AM}
set_option maxRecDepth 20000 in
theorem l_low {v n : Int32} {N : Nat} (hn : n = nI N) (h0 : 0 < N) (hN : N < 2 ^ 31) (hQ : ∀ j, j < N → Q (.inl (some (.int (nI j)))) M) : Tr tL_low 0 0 [.int v, .int n] M Q := by
  obtain ⟨m, hm, e⟩ := pk_andE v (m := 2147483647) 31 (by decide)
  refine Tr.run sL_low (by decide +kernel) rfl 20 fun X => ?_
  refine ⟨by rw [hn]; exact nI_ne0 h0 hN, ?_⟩
  have e2 : (v &&& 2147483647) % n = nI (m % N) := by rw [e, hn, mod_nI hm hN]
  rw [e2]
  exact hQ _ (Nat.mod_lt _ h0)
set_option maxRecDepth 20000 in
theorem l_cell {k : Int32} (hk : 0 ≤ k.toInt) (hQ : ∀ x, Q (.inl (some (.int x))) M) : Tr tL_cell 0 0 [.float 23, .int k] M Q := by
  refine Tr.run sL_cell (by decide +kernel) rfl 20 fun X => ?_
  exact ⟨hk, fun x => hQ x, hQ _⟩
set_option maxRecDepth 20000 in
theorem l_place {x : Int32} {rs : List Rq} (h21 : G 21 = nI rs.length) (hn : rs.length ≤ 12) (hq : QOk Qa rs) (hQ : Q (.inl (some (.int (ix (fndL x rs))))) (g3 G Qa La)) : Tr tL_place 0 0 [.ref 0, .ref 1, .int x] (g3 G Qa La) Q := by
  have ef : fndN (fun k => Qa (5 * k)) x rs.length 0 = fndL x rs := fndN_eq fun k hk => row_q hq (k := k) (by omega) (j := 0) (by decide)
  rw [← ef] at hQ
  refine Tr.of sL_place (by decide +kernel) (Nat.le_of_ble_eq_true rfl) fun X hX => ?_
  have key : ∀ (m i : Nat), i + m = rs.length → Q (.inl (some (.int (ix (fndN (fun k => Qa (5 * k)) x m i))))) (g3 G Qa La) → X 2 [some (.ref 0), some (.ref 1), some (.int x), some (.int (nI i))] [] (g3 G Qa La) (0, 0) := by
    intro m
    induction m with
    | zero =>
      intro i hi hq
      refine go hX (fun _ => none) 30 ?_
      refine ⟨in_lit (by decide), And.intro (fun _ => hq) (fun h => absurd (show G 21 ≤ nI i by rw [h21, show i = rs.length by omega]; exact Int32.le_refl _) h)⟩
    | succ m ih =>
      intro i hi hq
      have hl : ¬ G 21 ≤ nI i := by rw [h21]; exact nI_ge (by omega) (by omega)
      have v0 := q0v (i := i) (N := 60) (by omega) (by decide)
      have c0 := q0c (i := i) (by omega)
      refine go hX (fun pc => if pc = 2 then some 4 else none) 30 ?_
      refine ⟨in_lit (by decide), And.intro (fun h => absurd h hl) (fun _ => ⟨v0, And.intro (fun h => ?_) (fun h => ?_)⟩)⟩
      · have h' : ¬ Qa ((5 : Int32) * nI i).toNatClampNeg = x := h
        rw [c0] at h'
        rw [show fndN (fun k => Qa (5 * k)) x (m + 1) i = fndN (fun k => Qa (5 * k)) x m (i + 1) from if_neg h'] at hq
        have := ih (i + 1) (by omega) hq
        rw [← nI_1] at this
        exact this
      · have h' : Qa ((5 : Int32) * nI i).toNatClampNeg = x := h
        rw [c0] at h'
        rw [show fndN (fun k => Qa (5 * k)) x (m + 1) i = some i from if_pos h'] at hq
        exact hq
  refine go hX (fun pc => if pc = 2 then some 4 else none) 30 ?_
  exact key rs.length 0 (by omega) hQ
theorem run_le : ∀ (d : Nat) (s : Sg), (runS d s).1 ≤ d
  | 0, _ => Nat.le_refl _
  | d + 1, s => by
    unfold runS
    split
    · exact Nat.zero_le _
    · exact Nat.succ_le_succ (run_le d (tickS s))
theorem li_run : ∀ (d t : Nat) (s : Sg), Inv T s → LI t s → t + d ≤ 20000 → LI (t + (runS d s).1) (runS d s).2
  | 0, _, _, _, h, _ => h
  | d + 1, t, s, hI, h, ht => by
    unfold runS
    split
    · exact h
    · have := li_run d (t + 1) (tickS s) (inv_tick hI) (li_tick hI (by omega) h) (by omega)
      rw [show t + 1 + (runS d (tickS s)).1 = t + ((runS d (tickS s)).1 + 1) by omega] at this
      exact this
theorem li_pass : ∀ (d t : Nat) (s : Sg), Inv T s → LI t s → t + d ≤ 20000 → LI (t + d) (passS d s)
  | 0, _, _, _, h, _ => h
  | d + 1, t, s, hI, h, ht => by
    have := li_pass d (t + 1) (tickS s) (inv_tick hI) (li_tick hI (by omega) h) (by omega)
    rw [show t + 1 + d = t + (d + 1) by omega] at this
    exact this
set_option maxRecDepth 20000 in
theorem l_finish (hI : Inv T s) (hL : LI t s) (ht : t ≤ 10000) (hT : TI G Qa La s) (hQ : ∀ G1 Q1 L1, TI G1 Q1 L1 (runS 500 s).2 → Q (.inl (some (.int (nI (runS 500 s).1)))) (g3 G1 Q1 L1)) : Tr tL_finish 0 0 [.ref 0, .ref 1, .ref 2] (g3 G Qa La) Q := by
  refine Tr.of sL_finish (by decide +kernel) (Nat.le_of_ble_eq_true rfl) fun X hX => ?_
  have key : ∀ (d i t : Nat) (s : Sg) (G Qa La : Nat → Int32), i + d = 500 → t + d ≤ 20000 → Inv T s → LI t s → TI G Qa La s → (∀ G1 Q1 L1, TI G1 Q1 L1 (runS d s).2 → Q (.inl (some (.int (nI (i + (runS d s).1))))) (g3 G1 Q1 L1)) → X 2 [some (.ref 0), some (.ref 1), some (.ref 2), some (.int (nI i))] [] (g3 G Qa La) (0, 0) := by
    intro d
    induction d with
    | zero =>
      intro i t s G Qa La hi ht hI hL hT hq
      refine go hX (fun _ => none) 30 ?_
      refine ⟨in_lit (by decide), And.intro (fun _ => hq _ _ _ hT) (fun _ => And.intro (fun _ => hq _ _ _ hT) (fun h => absurd (nI_le (a := 500) (by omega) (by omega)) h))⟩
    | succ d ih =>
      intro i t s G Qa La hi ht hI hL hT hq
      have hlen := hI.2.1
      have e21 : G 21 = nI s.2.1.length := hT.1.2.1
      have p24 : ∀ G1 Q1 L1, TI G1 Q1 L1 (tickS s) → ¬ s.2.1.length = 0 → X 24 [some (.ref 0), some (.ref 1), some (.ref 2), some (.int (nI i))] [.int 0, .int (nI i)] (g3 G1 Q1 L1) (0, 0) := by
        intro G1 Q1 L1 hT1 h0
        have e : runS (d + 1) s = ((runS d (tickS s)).1 + 1, (runS d (tickS s)).2) := if_neg h0
        rw [e] at hq
        refine go hX (fun pc => if pc = 2 then some 4 else none) 30 ?_
        refine And.intro (fun _ => ?_) (fun h => absurd rfl h)
        have := ih (i + 1) (t + 1) (tickS s) G1 Q1 L1 (by omega) (by omega) (inv_tick hI) (li_tick hI (by omega) hL) hT1 (fun G2 Q2 L2 h2 => by
          rw [show i + 1 + (runS d (tickS s)).1 = i + ((runS d (tickS s)).1 + 1) by omega]
          exact hq G2 Q2 L2 h2)
        rw [← nI_1] at this
        exact this
      refine go hX (fun pc => if pc = 24 then some 4 else none) 30 ?_
      refine ⟨in_lit (by decide), And.intro (fun h => ?_) (fun h => And.intro (fun h2 => ?_) (fun h2 => ?_))⟩
      · have h' : G 21 ≤ 0 := h
        rw [e21] at h'
        have h0 : s.2.1.length = 0 := by
          rcases Nat.eq_zero_or_pos s.2.1.length with h0 | h0
          · exact h0
          · exact absurd h' (nI_nle h0 (by omega))
        have e : runS (d + 1) s = (0, s) := if_pos h0
        rw [e] at hq
        exact hq _ _ _ hT
      · exact absurd h2 (nI_ge (b := 500) (by omega) (by decide))
      · have h' : ¬ G 21 ≤ 0 := h
        rw [e21] at h'
        exact l_tick hI hL (by omega) hT (fun G1 Q1 L1 hT1 => p24 G1 Q1 L1 hT1 (fun z => h' (by rw [z]; decide)))
  refine go hX (fun pc => if pc = 2 then some 4 else none) 30 ?_
  refine key 500 0 t s G Qa La (by omega) (by omega) hI hL hT (fun G1 Q1 L1 h => ?_)
  rw [Nat.zero_add]
  exact hQ G1 Q1 L1 h
/-! the object beside the law's arrays -/
def eL : List Nat := [83, 84, 85]
def pL : List (Option Nat) := [none, none, none, none, none, none, none, none, none, none, none, none, none, none, none, none, none, none, none, none, none, none, none, none, none, none, none, none, none, none, none, none, none, none, none, none, none, none, none, none, none, none, none, none, none, none, none, none, none, none, none, none, none, none, none, none, none, none, none, none, none, none, none, none, none, none, none, none, none, none, none, none, none, none, none, none, none, none, none, none, none, none, none, some 0, some 1, some 2]
abbrev b0 : Nat → Int32 := fun _ => 0
/-- what holds between two of the law's acts -/
def LJ (T t : Nat) (a : Kp) (G Qa La : Nat → Int32) (Mc : AM) : Prop := mcl Mc ∧ CW T a 0 b0 Mc ∧ AInv T a ∧ TI G Qa La a.1 ∧ LI t a.1
