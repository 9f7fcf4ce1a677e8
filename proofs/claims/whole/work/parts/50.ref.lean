/-! ===== the reference: rows, targets ===== -/
def mdW (g P H X G f : Nat → Int32) (h : Int64) : AM :=
  [.inr (8, [.ref 1, .ref 2, .ref 3, .int (f 0), .int (f 1), .ref 4, .int (f 2), .int (f 3), .int (f 4), .int (f 5), .int (f 6), .int (f 7), .ref 5, .long h]), .inl (0, 133, .inl g), .inl (0, 532, .inl P), .inl (0, 133, .inl H), .inl (0, 150, .inl X), .inl (0, 3, .inl G)]
variable {g P H X G f : Nat → Int32} {h : Int64} {Q : AQ}
theorem ofN (i j : Nat) : 23 + 5 * nI i + nI j = nI (23 + 5 * i + j) := by
  rw [show (5 : Int32) = nI 5 from rfl, show (23 : Int32) = nI 23 from rfl, mul_nI, nI_add, nI_add]
set_option maxRecDepth 20000 in
theorem m_of {kv wv v : Int32} {i j : Nat} (hk : kv = nI i) (hw : wv = nI j) (hb : 23 + 5 * i + j < 133) (hv : g (23 + 5 * i + j) = v) (hQ : Q (.inl (some (.int v))) (mdW g P H X G f h)) : Tr tX10_of 0 0 [.ref 0, .int kv, .int wv] (mdW g P H X G f h) Q := by
  have e : 23 + 5 * kv + wv = nI (23 + 5 * i + j) := by rw [hk, hw, ofN]
  refine Tr.run sX10_of (by decide +kernel) rfl 60 fun X => ?_
  refine ⟨by rw [e]; exact in_nI hb (by decide), ?_⟩
  rw [e, nI_clamp (by omega), hv]
  exact hQ
def sizeI (v : Int32) : Int32 := if 0 ≤ v then v else -v
set_option maxRecDepth 20000 in
theorem m_size {M : AM} {v : Int32} (hQ : Q (.inl (some (.int (sizeI v)))) M) : Tr tX10_size 0 0 [.int v] M Q := by
  refine Tr.run sX10_size (by decide +kernel) rfl 60 fun X => ?_
  unfold sizeI at hQ
  refine And.intro (fun h => ?_) (fun h => ?_)
  · rw [if_pos h] at hQ; exact hQ
  · rw [if_neg h] at hQ; exact hQ
def trN (g : Nat → Int32) (k : Nat) : Int32 := g (23 + 5 * k + 1)
def farN (g : Nat → Int32) (k : Nat) : Int32 := sizeI (trN g k - g 16)
set_option maxRecDepth 20000 in
theorem m_far {kv : Int32} {i : Nat} (hk : kv = nI i) (hb : i < 12) (hQ : Q (.inl (some (.int (farN g i)))) (mdW g P H X G f h)) : Tr tX10_far 0 0 [.ref 0, .int kv] (mdW g P H X G f h) Q := by
  refine Tr.run sX10_far (by decide +kernel) rfl 60 fun X => ?_
  refine m_of (v := trN g i) hk (show (1 : Int32) = nI 1 from rfl) (by omega) rfl ?_
  refine ⟨in_lit (by decide), ?_⟩
  refine m_size ?_
  exact hQ
def aheadN (g : Nat → Int32) (sw : Int32) (k : Nat) : Bool := if sw = 1 then decide (g 16 ≤ trN g k) else decide (trN g k ≤ g 16)
def bI (b : Bool) : Int32 := if b then 1 else 0
theorem bI_and (b : Bool) : bI b &&& 1 = bI b := by cases b <;> rfl
set_option maxRecDepth 20000 in
theorem m_ahead {kv sw : Int32} {i : Nat} (hk : kv = nI i) (hb : i < 12) (hQ : Q (.inl (some (.int (bI (aheadN g sw i))))) (mdW g P H X G f h)) : Tr tX10_isAhead 0 0 [.ref 0, .int kv, .int sw] (mdW g P H X G f h) Q := by
  refine Tr.run sX10_isAhead (by decide +kernel) rfl 60 fun X => ?_
  unfold aheadN at hQ
  refine And.intro (fun h1 => ?_) (fun h1 => ?_)
  · rw [if_neg h1] at hQ
    refine m_of (v := trN g i) hk (show (1 : Int32) = nI 1 from rfl) (by omega) rfl ?_
    refine ⟨in_lit (by decide), And.intro (fun h2 => ⟨rfl, ?_⟩) (fun h2 => ⟨rfl, ?_⟩)⟩
    · rw [decide_eq_false (Int32.not_le.mpr (show g 16 < trN g i from h2))] at hQ; exact hQ
    · rw [decide_eq_true (Int32.not_lt.mp (show ¬ g 16 < trN g i from h2))] at hQ; exact hQ
  · rw [if_pos h1] at hQ
    refine m_of (v := trN g i) hk (show (1 : Int32) = nI 1 from rfl) (by omega) rfl ?_
    refine ⟨in_lit (by decide), And.intro (fun h2 => ⟨rfl, ?_⟩) (fun h2 => ⟨rfl, ?_⟩)⟩
    · rw [decide_eq_false (Int32.not_le.mpr (show trN g i < g 16 from h2))] at hQ; exact hQ
    · rw [decide_eq_true (Int32.not_lt.mp (show ¬ trN g i < g 16 from h2))] at hQ; exact hQ
def pickM (may : Nat → Bool) (f : Nat → Int32) : Nat → Option Nat
  | 0 => none
  | k + 1 => match pickM may f k with
    | none => if may k = true then some k else none
    | some b => if may k = true then (if f b ≤ f k then some b else some k) else some b
theorem pickM_lt {may : Nat → Bool} {f : Nat → Int32} : ∀ {m b : Nat}, pickM may f m = some b → b < m
  | 0, b, h => nomatch h
  | k + 1, b, h => by
    unfold pickM at h
    split at h
    · split at h
      · cases h; omega
      · cases h
    · rename_i b' hb
      have := pickM_lt hb
      split at h
      · split at h
        · cases h; omega
        · cases h; omega
      · cases h; omega
def mayN (g : Nat → Int32) (sw : Int32) (k : Nat) : Bool := if sw = 0 then true else aheadN g sw k
set_option maxRecDepth 20000 in
theorem m_nearest {sw : Int32} {n : Nat} (hn : g 21 = nI n) (hm : n ≤ 12) (hQ : Q (.inl (some (.int (ix (pickM (mayN g sw) (farN g) n))))) (mdW g P H X G f h)) : Tr tX10_nearest 0 0 [.ref 0, .int sw] (mdW g P H X G f h) Q := by
  refine Tr.of sX10_nearest (by decide +kernel) (Nat.le_of_ble_eq_true rfl) fun Y hX => ?_
  have key : ∀ (d i : Nat) (iv : Int32) (x : Option Value), i + d = n → iv = nI i → Y 4 [some (.ref 0), some (.int sw), some (.int (ix (pickM (mayN g sw) (farN g) i))), some (.int iv), x] [] (mdW g P H X G f h) (0, 0) := by
    intro d
    induction d with
    | zero =>
      intro i iv x hi hv
      rw [show n = i by omega] at hQ
      refine go hX (fun _ => none) 40 ?_
      refine ⟨in_lit (by decide), And.intro (fun _ => hQ) (fun h => ?_)⟩
      exact absurd (show g 21 ≤ iv by rw [hn, hv, show i = n by omega]; exact Int32.le_refl _) h
    | succ d ih =>
      intro i iv x hi hv
      have hl : ¬ g 21 ≤ iv := by rw [hn, hv]; exact nI_ge (by omega) (by omega)
      have nxt : ∀ (o : Option Nat) (x : Option Value), pickM (mayN g sw) (farN g) (i + 1) = o → Y 63 [some (.ref 0), some (.int sw), some (.int (ix (pickM (mayN g sw) (farN g) i))), some (.int iv), x] [.int (ix o)] (mdW g P H X G f h) (0, 0) := by
        intro o x ho
        refine go hX (fun pc => if pc = 4 then some 5 else none) 40 ?_
        have := ih (i + 1) (iv + 1) x (by omega) (by rw [hv]; exact nI_1 i)
        rw [ho] at this
        exact this
      have tail : ∀ b : Bool, mayN g sw i = b → Y 35 [some (.ref 0), some (.int sw), some (.int (ix (pickM (mayN g sw) (farN g) i))), some (.int iv), some (.int (bI b))] [] (mdW g P H X G f h) (0, 0) := by
        intro b hb
        refine go hX (fun pc => if pc = 63 then some 5 else none) 40 ?_
        cases b with
        | false =>
          refine And.intro (fun _ => ?_) (fun h => absurd rfl h)
          refine nxt _ _ ?_
          show (match pickM (mayN g sw) (farN g) i with | none => _ | some b => _) = _
          rw [hb]
          cases pickM (mayN g sw) (farN g) i <;> rfl
        | true =>
          refine And.intro (fun h => absurd h (by decide)) (fun _ => ?_)
          cases hp : pickM (mayN g sw) (farN g) i with
          | none =>
            refine And.intro (fun _ => ?_) (fun h => absurd rfl h)
            have := nxt (some i) (some (.int (bI true))) (by show (match pickM (mayN g sw) (farN g) i with | none => _ | some b => _) = _; rw [hp, hb]; rfl)
            rw [hp] at this
            rw [hv] at this ⊢
            exact this
          | some c =>
            have hc := pickM_lt hp
            refine And.intro (fun h => absurd h (ix_ne (by omega))) (fun _ => ?_)
            refine m_far hv (by omega) ?_
            refine m_far (i := c) (show ix (some c) = nI c from rfl) (by omega) ?_
            have e : pickM (mayN g sw) (farN g) (i + 1) = if farN g c ≤ farN g i then some c else some i := by
              show (match pickM (mayN g sw) (farN g) i with | none => _ | some b => _) = _
              rw [hp, hb]
              rfl
            rw [hp] at nxt
            refine And.intro (fun h => ?_) (fun h => ?_)
            · exact nxt (some c) _ (e.trans (if_pos h))
            · have := nxt (some i) (some (.int (bI true))) (e.trans (if_neg h))
              rw [hv] at this ⊢
              exact this
      refine go hX (fun pc => if pc = 35 then some 5 else none) 40 ?_
      refine ⟨in_lit (by decide), And.intro (fun h => absurd h hl) (fun _ => And.intro (fun h0 => ?_) (fun h0 => ?_))⟩
      · exact tail true (if_pos h0)
      · have hmay : mayN g sw i = aheadN g sw i := if_neg h0
        refine m_ahead hv (by omega) ?_
        cases hb : aheadN g sw i with
        | false => exact And.intro (fun _ => tail false (hmay.trans hb)) (fun h => absurd rfl h)
        | true => exact And.intro (fun h => absurd h (by decide)) (fun _ => tail true (hmay.trans hb))
  refine go hX (fun pc => if pc = 4 then some 5 else none) 40 ?_
  exact key n 0 0 none (by omega) rfl
