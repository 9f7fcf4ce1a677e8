/-! ===== the reference: targets, places, steps ===== -/
variable {g P H X G f : Nat → Int32} {h : Int64} {Q : AQ}
def dlN (g : Nat → Int32) (k : Nat) : Int32 := g (23 + 5 * k + 3)
def nuN (g : Nat → Int32) (k : Nat) : Int32 := g (23 + 5 * k + 0)
set_option maxRecDepth 20000 in
theorem m_earliest {n : Nat} (hn : g 21 = nI n) (hm : n ≤ 12) (hQ : Q (.inl (some (.int (ix (pickM (fun _ => true) (dlN g) n))))) (mdW g P H X G f h)) : Tr tX10_earliest 0 0 [.ref 0] (mdW g P H X G f h) Q := by
  refine Tr.of sX10_earliest (by decide +kernel) (Nat.le_of_ble_eq_true rfl) fun Y hX => ?_
  have key : ∀ (d i : Nat) (iv : Int32), i + d = n → iv = nI i → Y 4 [some (.ref 0), some (.int (ix (pickM (fun _ => true) (dlN g) i))), some (.int iv)] [] (mdW g P H X G f h) (0, 0) := by
    intro d
    induction d with
    | zero =>
      intro i iv hi hv
      rw [show n = i by omega] at hQ
      refine go hX (fun _ => none) 40 ?_
      refine ⟨in_lit (by decide), And.intro (fun _ => hQ) (fun h => ?_)⟩
      exact absurd (show g 21 ≤ iv by rw [hn, hv, show i = n by omega]; exact Int32.le_refl _) h
    | succ d ih =>
      intro i iv hi hv
      have hl : ¬ g 21 ≤ iv := by rw [hn, hv]; exact nI_ge (by omega) (by omega)
      have ih1 := ih (i + 1) (iv + 1) (by omega) (by rw [hv]; exact nI_1 i)
      refine go hX (fun pc => if pc = 4 then some 3 else none) 40 ?_
      refine ⟨in_lit (by decide), And.intro (fun h => absurd h hl) (fun _ => ?_)⟩
      cases hp : pickM (fun _ => true) (dlN g) i with
      | none =>
        refine And.intro (fun _ => ?_) (fun h => absurd rfl h)
        have e : pickM (fun _ => true) (dlN g) (i + 1) = some i := by
          show (match pickM (fun _ => true) (dlN g) i with | none => _ | some b => _) = _
          rw [hp]
          rfl
        rw [e] at ih1
        rw [hv] at ih1 ⊢
        exact ih1
      | some c =>
        have hc := pickM_lt hp
        have e : pickM (fun _ => true) (dlN g) (i + 1) = if dlN g c ≤ dlN g i then some c else some i := by
          show (match pickM (fun _ => true) (dlN g) i with | none => _ | some b => _) = _
          rw [hp]
          rfl
        refine And.intro (fun h => absurd h (ix_ne (by omega))) (fun _ => ?_)
        refine m_of (v := dlN g i) hv (show (3 : Int32) = nI 3 from rfl) (by omega) rfl ?_
        refine m_of (v := dlN g c) (show ix (some c) = nI c from rfl) (show (3 : Int32) = nI 3 from rfl) (by omega) rfl ?_
        refine And.intro (fun h => ?_) (fun h => ?_)
        · rw [e, if_pos h] at ih1
          exact ih1
        · rw [e, if_neg h] at ih1
          rw [hv] at ih1 ⊢
          exact ih1
  refine go hX (fun pc => if pc = 4 then some 3 else none) 40 ?_
  exact key n 0 0 (by omega) rfl
def sweepM (g : Nat → Int32) (n : Nat) : Option Nat := match pickM (mayN g (g 20)) (farN g) n with
  | some k => some k
  | none => pickM (mayN g (3 - g 20)) (farN g) n
theorem sweepM_lt {g : Nat → Int32} {n k : Nat} (h : sweepM g n = some k) : k < n := by
  unfold sweepM at h
  split at h
  · rename_i hp; cases h; exact pickM_lt hp
  · exact pickM_lt h
set_option maxRecDepth 20000 in
theorem m_sweeping {n : Nat} (hn : g 21 = nI n) (hm : n ≤ 12) (hQ : Q (.inl (some (.int (ix (sweepM g n))))) (mdW g P H X G f h)) : Tr tX10_sweeping 0 0 [.ref 0] (mdW g P H X G f h) Q := by
  refine Tr.run sX10_sweeping (by decide +kernel) rfl 60 fun X => ?_
  refine ⟨in_lit (by decide), ?_⟩
  refine m_nearest (sw := g 20) hn hm ?_
  unfold sweepM at hQ
  cases hp : pickM (mayN g (g 20)) (farN g) n with
  | none =>
    rw [hp] at hQ
    refine And.intro (fun h => absurd rfl h) (fun _ => ⟨in_lit (by decide), ?_⟩)
    refine m_nearest (sw := 3 - g 20) hn hm ?_
    exact hQ
  | some k =>
    rw [hp] at hQ
    exact And.intro (fun _ => hQ) (fun h => absurd h (ix_ne (by have := pickM_lt hp; omega)))
def tgtM (g : Nat → Int32) (n : Nat) (way : Int32) : Option Nat :=
  if n = 0 then none else if way = 0 then some 0 else if way = 1 then sweepM g n else if way = 2 then pickM (mayN g 0) (farN g) n else pickM (fun _ => true) (dlN g) n
theorem tgtM_lt {g : Nat → Int32} {n k : Nat} {way : Int32} (h : tgtM g n way = some k) : k < n := by
  unfold tgtM at h
  split at h
  · cases h
  · split at h
    · cases h; omega
    · split at h
      · exact sweepM_lt h
      · split at h
        · exact pickM_lt h
        · exact pickM_lt h
set_option maxRecDepth 20000 in
theorem m_targetBy {n : Nat} {way : Int32} (hn : g 21 = nI n) (hm : n ≤ 12) (hQ : Q (.inl (some (.int (ix (tgtM g n way))))) (mdW g P H X G f h)) : Tr tX10_targetBy 0 0 [.ref 0, .int way] (mdW g P H X G f h) Q := by
  refine Tr.run sX10_targetBy (by decide +kernel) rfl 60 fun X => ?_
  unfold tgtM at hQ
  refine ⟨in_lit (by decide), And.intro (fun h0 => And.intro (fun h1 => And.intro (fun h2 => And.intro (fun h3 => ?_) (fun h3 => ?_)) (fun h2 => ?_)) (fun h1 => ?_)) (fun h0 => ?_)⟩
  · have n0 : ¬ n = 0 := fun z => h0 (by rw [z] at hn; exact hn)
    rw [if_neg n0, if_neg h1, if_neg h2, if_neg h3] at hQ
    exact m_earliest hn hm hQ
  · have n0 : ¬ n = 0 := fun z => h0 (by rw [z] at hn; exact hn)
    rw [if_neg n0, if_neg h1, if_neg h2, if_pos h3] at hQ
    exact m_nearest hn hm hQ
  · have n0 : ¬ n = 0 := fun z => h0 (by rw [z] at hn; exact hn)
    rw [if_neg n0, if_neg h1, if_pos h2] at hQ
    exact m_sweeping hn hm hQ
  · have n0 : ¬ n = 0 := fun z => h0 (by rw [z] at hn; exact hn)
    rw [if_neg n0, if_pos h1] at hQ
    exact hQ
  · have n0 : n = 0 := by
      rcases Nat.eq_zero_or_pos n with z | z
      · exact z
      · exact absurd (show nI n = 0 by rw [← hn]; exact h0) (nI_ne0 z (by omega))
    rw [if_pos n0] at hQ
    exact hQ
/-- the last place of a number -/
def lastN (f : Nat → Int32) (x : Int32) : Nat → Option Nat
  | 0 => none
  | k + 1 => if f k = x then some k else lastN f x k
set_option maxRecDepth 20000 in
theorem m_placeOf {x : Int32} {n : Nat} (hn : g 21 = nI n) (hm : n ≤ 12) (hQ : Q (.inl (some (.int (ix (lastN (nuN g) x n))))) (mdW g P H X G f h)) : Tr tX10_placeOf 0 0 [.ref 0, .int x] (mdW g P H X G f h) Q := by
  refine Tr.of sX10_placeOf (by decide +kernel) (Nat.le_of_ble_eq_true rfl) fun Y hX => ?_
  have key : ∀ (d i : Nat) (iv : Int32), i + d = n → iv = nI i → Y 4 [some (.ref 0), some (.int x), some (.int (ix (lastN (nuN g) x i))), some (.int iv)] [] (mdW g P H X G f h) (0, 0) := by
    intro d
    induction d with
    | zero =>
      intro i iv hi hv
      rw [show n = i by omega] at hQ
      refine go hX (fun _ => none) 40 ?_
      refine ⟨in_lit (by decide), And.intro (fun _ => hQ) (fun h => ?_)⟩
      exact absurd (show g 21 ≤ iv by rw [hn, hv, show i = n by omega]; exact Int32.le_refl _) h
    | succ d ih =>
      intro i iv hi hv
      have hl : ¬ g 21 ≤ iv := by rw [hn, hv]; exact nI_ge (by omega) (by omega)
      have ih1 := ih (i + 1) (iv + 1) (by omega) (by rw [hv]; exact nI_1 i)
      refine go hX (fun pc => if pc = 4 then some 4 else none) 40 ?_
      refine ⟨in_lit (by decide), And.intro (fun h => absurd h hl) (fun _ => ?_)⟩
      refine m_of (v := nuN g i) hv (show (0 : Int32) = nI 0 from rfl) (by omega) rfl ?_
      refine And.intro (fun h => ?_) (fun h => ?_)
      · rw [show lastN (nuN g) x (i + 1) = lastN (nuN g) x i from if_neg h] at ih1
        exact ih1
      · rw [show lastN (nuN g) x (i + 1) = some i from if_pos h] at ih1
        rw [hv] at ih1 ⊢
        exact ih1
  refine go hX (fun pc => if pc = 4 then some 4 else none) 40 ?_
  exact key n 0 0 (by omega) rfl
set_option maxRecDepth 20000 in
theorem m_takes {pv : Int32} {p n : Nat} (hp : pv = nI p) (hpn : p < n) (hn : g 21 = nI n) (hm : n ≤ 12) (hQ : ∀ g1 : Nat → Int32, g1 21 = nI (n - 1) → (∀ k, 23 + 5 * p ≤ k → k < 23 + 5 * (n - 1) → g1 k = g (k + 5)) → (∀ k, ¬ k = 21 → (k < 23 + 5 * p ∨ 23 + 5 * (n - 1) ≤ k) → g1 k = g k) → Q (.inl none) (mdW g1 P H X G f h)) : Tr tX10_takes 0 0 [.ref 0, .int pv] (mdW g P H X G f h) Q := by
  refine Tr.of sX10_takes (by decide +kernel) (Nat.le_of_ble_eq_true rfl) fun Y hX => ?_
  have key : ∀ (d i : Nat) (iv : Int32) (g1 : Nat → Int32), i + d = 23 + 5 * (n - 1) → 23 + 5 * p ≤ i → iv = nI i → g1 21 = nI (n - 1) → (∀ k, 23 + 5 * p ≤ k → k < i → g1 k = g (k + 5)) → (∀ k, ¬ k = 21 → (k < 23 + 5 * p ∨ i ≤ k) → g1 k = g k) → Y 18 [some (.ref 0), some (.int pv), some (.int iv)] [] (mdW g1 P H X G f h) (0, 0) := by
    intro d
    induction d with
    | zero =>
      intro i iv g1 hi hpi hv h21 h1 h2
      have el : (23 : Int32) + 5 * nI (n - 1) = nI i := by
        rw [show (5 : Int32) = nI 5 from rfl, show (23 : Int32) = nI 23 from rfl, mul_nI, nI_add]
        congr 1
        omega
      refine go hX (fun _ => none) 40 ?_
      refine ⟨in_lit (by decide), And.intro (fun _ => hQ g1 h21 (fun k ha hb => h1 k ha (by omega)) (fun k ha hb => h2 k ha (by omega))) (fun h => ?_)⟩
      exact absurd (show (23 : Int32) + 5 * g1 21 ≤ iv by rw [h21, el, hv]; exact Int32.le_refl _) h
    | succ d ih =>
      intro i iv g1 hi hpi hv h21 h1 h2
      have el : (23 : Int32) + 5 * nI (n - 1) = nI (23 + 5 * (n - 1)) := by
        rw [show (5 : Int32) = nI 5 from rfl, show (23 : Int32) = nI 23 from rfl, mul_nI, nI_add]
      have hl : ¬ (23 : Int32) + 5 * g1 21 ≤ iv := by rw [h21, el, hv]; exact nI_ge (by omega) (by omega)
      have v0 : vp_in iv 133 := by rw [hv]; exact in_nI (by omega) (by decide)
      have v1 : iv.toNatClampNeg = i := by rw [hv]; exact nI_clamp (by omega)
      have e5 : iv + 5 = nI (i + 5) := by rw [hv]; exact nI_add i 5
      have v2 : vp_in (iv + 5) 133 := by rw [e5]; exact in_nI (by omega) (by decide)
      have v3 : (iv + 5).toNatClampNeg = i + 5 := by rw [e5]; exact nI_clamp (by omega)
      refine go hX (fun pc => if pc = 18 then some 3 else none) 40 ?_
      refine ⟨in_lit (by decide), And.intro (fun h => absurd h hl) (fun _ => ⟨v2, v0, ?_⟩)⟩
      rw [v1, v3]
      refine ih (i + 1) (iv + 1) _ (by omega) (by omega) (by rw [hv]; exact nI_1 i) ?_ ?_ ?_
      · show upd g1 i _ 21 = _
        unfold upd
        rw [if_neg (by omega)]
        exact h21
      · intro k ha hb
        show upd g1 i (g1 (i + 5)) k = _
        unfold upd
        by_cases hk : k = i
        · rw [if_pos hk, hk]
          exact h2 (i + 5) (by omega) (by omega)
        · rw [if_neg hk]
          exact h1 k ha (by omega)
      · intro k ha hb
        show upd g1 i (g1 (i + 5)) k = _
        unfold upd
        rw [if_neg (by omega)]
        exact h2 k ha (by omega)
  refine go hX (fun pc => if pc = 18 then some 3 else none) 40 ?_
  refine ⟨in_lit (by decide), in_lit (by decide), ?_⟩
  have e0 : (23 : Int32) + 5 * pv = nI (23 + 5 * p) := by rw [hp, show (5 : Int32) = nI 5 from rfl, show (23 : Int32) = nI 23 from rfl, mul_nI, nI_add]
  have e1 : g 21 - 1 = nI (n - 1) := by rw [hn]; exact sub_nI (a := n) (b := 1) (by omega)
  refine key (5 * (n - 1 - p)) (23 + 5 * p) _ (upd g 21 (g 21 - 1)) (by omega) (Nat.le_refl _) e0 e1 (fun k ha hb => absurd hb (by omega)) (fun k ha _ => by unfold upd; rw [if_neg ha])
set_option maxRecDepth 20000 in
theorem m_steps {way heat : Int32} (hQ : Q (.inl none) (mdW (upd (upd (upd (upd g 17 way) 16 (g 16 + (if way = 1 then 1 else -1))) 18 (g 18 + heat)) 11 (g 11 + 1)) P H X G f h)) : Tr tX10_steps 0 0 [.ref 0, .int way, .int heat] (mdW g P H X G f h) Q := by
  refine Tr.run sX10_steps (by decide +kernel) rfl 60 fun X => ?_
  refine ⟨in_lit (by decide), in_lit (by decide), And.intro (fun h1 => ?_) (fun h1 => ?_)⟩
  · rw [if_neg h1] at hQ
    exact ⟨in_lit (by decide), in_lit (by decide), in_lit (by decide), in_lit (by decide), in_lit (by decide), hQ⟩
  · rw [if_pos h1] at hQ
    exact ⟨in_lit (by decide), in_lit (by decide), in_lit (by decide), in_lit (by decide), in_lit (by decide), hQ⟩
