/-! ===== State: its world, the easy methods ===== -/
theorem Tr.at {d : TrD} {mc ms : Nat} {a a' : List Value} {M Mb : AM} {Q' : AQ} (emb : List Nat) (h : Tr d mc ms a M (fun o M' => Q' (upr (embF emb Mb.length) o) (mrg emb Mb M'))) (hn : va_nd emb = true) (hM : emb.map (fun k => Mb[k]?) = M.map (fun o => some (upo (embF emb Mb.length) o))) (ha : a' = a.map (upv (embF emb Mb.length))) : Tr d mc ms a' Mb Q' :=
  Tr.lift emb h hn hM ha (fun _ _ _ q => q)
def stA (b : Nat) (u : Nat → Int32) (n : Int32) (S : Nat → Int32) (R : Nat → Nat → Int32) (L : Nat → Int32) : AM :=
  [.inr (5, [.int (u 0), .int (u 1), .int (u 6), .ref (b + 1), .ref (b + 2), .ref (b + 3), .ref (b + 9), .ref (b + 11)]), .inl (0, 4, .inl S), armO (u 16) (u 17) (u 18) (u 19) (u 20),
   .inr (4, [.int n, .int (u 7), .ref (b + 4), .ref (b + 5), .ref (b + 6), .ref (b + 7), .ref (b + 8)]), .inl (0, 12, .inl (R 0)), .inl (0, 12, .inl (R 1)), .inl (0, 12, .inl (R 2)), .inl (0, 12, .inl (R 3)), .inl (0, 12, .inl (R 4)),
   .inr (3, [.int (u 8), .ref (b + 10)]), .inl (0, 50, .inl L), taO (u 9) (u 10) (u 11) (u 12) (u 13) (u 14) (u 15)]
variable {u : Nat → Int32} {n : Int32} {S : Nat → Int32} {R : Nat → Nat → Int32} {L : Nat → Int32} {Q : AQ}
set_option maxRecDepth 20000 in
theorem c_start {goal : Int32} (hQ : Q (.inl none) (stA 0 (upd (upd (upd (upd (upd u 17 (if u 16 < goal then 1 else 2)) 16 (u 16 + (if u 16 < goal then 1 else -1))) 18 (u 18 + 2)) 12 (u 12 + 1)) 11 (u 11 + 1)) n S R L)) : Tr tX6_start 0 0 [.ref 0, .int goal] (stA 0 u n S R L) Q := by
  refine Tr.run sX6_start (by decide +kernel) rfl 60 fun X => ?_
  refine And.intro (fun h => ?_) (fun h => ?_)
  · rw [if_neg (Int32.not_lt.mpr h), if_neg (Int32.not_lt.mpr h)] at hQ
    refine Tr.at [2] (c_step ?_) rfl rfl rfl
    exact hQ
  · rw [if_pos (Int32.not_le.mp h), if_pos (Int32.not_le.mp h)] at hQ
    refine Tr.at [2] (c_step ?_) rfl rfl rfl
    exact hQ
set_option maxRecDepth 20000 in
theorem c_moveOn {goal : Int32} (hQ : Q (.inl none) (stA 0 (if (if u 17 = 1 then u 16 < goal else goal < u 16) then upd (upd (upd u 16 (u 16 + (if u 17 = 1 then 1 else -1))) 18 (u 18 + 1)) 11 (u 11 + 1) else upd (upd (upd u 17 0) 18 (u 18 + S 1)) 13 (u 13 + 1)) n S R L)) : Tr tX6_moveOn 0 0 [.ref 0, .int goal] (stA 0 u n S R L) Q := by
  refine Tr.run sX6_moveOn (by decide +kernel) rfl 60 fun X => ?_
  refine Tr.at [2] (c_farther ?_) rfl rfl rfl
  by_cases h : (if u 17 = 1 then u 16 < goal else goal < u 16)
  · rw [if_pos h] at hQ
    rw [z01_t h]
    refine And.intro (fun h => absurd h (by decide)) (fun _ => ?_)
    refine Tr.at [2] (c_step ?_) rfl rfl rfl
    exact hQ
  · rw [if_neg h] at hQ
    rw [z01_f h]
    refine And.intro (fun _ => ⟨in_lit (by decide), hQ⟩) (fun h => absurd rfl h)
def rankV (ab de nu way sweep : Int32) : Int32 := if way = 1 then (if sweep = 1 then ab else -ab) else if way = 2 then (if 0 ≤ ab then ab else 0 - ab) else if way = 3 then de else nu
set_option maxRecDepth 20000 in
theorem c_rankOf {iv way sweep : Int32} {i : Nat} (hi : iv = nI i) (h12 : i < 12) (hQ : Q (.inl (some (.int (rankV (R 1 i - u 16) (R 3 i) (R 0 i) way sweep)))) (stA 0 u n S R L)) : Tr tX6_rankOf 0 0 [.ref 0, .int iv, .int way, .int sweep] (stA 0 u n S R L) Q := by
  have v0 : vp_in iv 12 := by rw [hi]; exact in_nI h12 (by decide)
  have v1 : iv.toNatClampNeg = i := by rw [hi]; exact nI_clamp (by omega)
  subst v1
  refine Tr.run sX6_rankOf (by decide +kernel) rfl 60 fun X => ?_
  unfold rankV at hQ
  refine ⟨v0, And.intro (fun h => ?_) (fun h => And.intro (fun h2 => ?_) (fun h2 => And.intro (fun h3 => ?_) (fun h3 => ?_)))⟩
  · rw [if_pos h] at hQ
    refine And.intro (fun g => ?_) (fun g => ?_)
    · rw [if_neg g] at hQ; exact hQ
    · rw [if_pos g] at hQ; exact hQ
  · rw [if_neg h, if_pos (show way = 2 from h2)] at hQ; exact hQ
  · rw [if_neg h, if_neg (show ¬ way = 2 from h2), if_pos (show way = 3 from h3)] at hQ; exact ⟨v0, hQ⟩
  · rw [if_neg h, if_neg (show ¬ way = 2 from h2), if_neg (show ¬ way = 3 from h3)] at hQ; exact ⟨v0, hQ⟩
/-- the first least of what isn't negative -/
def pick (f : Nat → Int32) : Nat → Option Nat
  | 0 => none
  | k + 1 => match pick f k with
    | none => if f k < 0 then none else some k
    | some b => if f k < 0 then some b else if f b ≤ f k then some b else some k
theorem pick_lt {f : Nat → Int32} : ∀ {m b : Nat}, pick f m = some b → b < m
  | 0, b, h => nomatch h
  | k + 1, b, h => by
    unfold pick at h
    split at h
    · split at h
      · cases h
      · cases h; omega
    · rename_i b' hb
      have := pick_lt hb
      split at h
      · cases h; omega
      · split at h
        · cases h; omega
        · cases h; omega
theorem pick_eq {f g : Nat → Int32} : ∀ {m : Nat}, (∀ k, k < m → f k = g k) → pick f m = pick g m
  | 0, _ => rfl
  | m + 1, h => by
    unfold pick
    rw [pick_eq (m := m) fun k hk => h k (by omega)]
    cases hp : pick g m with
    | none => show (if f m < 0 then _ else _) = _; rw [h m (by omega)]
    | some b => show (if f m < 0 then _ else if f b ≤ f m then _ else _) = _; rw [h m (by omega), h b (by have := pick_lt hp; omega)]
def rkF (u : Nat → Int32) (R : Nat → Nat → Int32) (way sweep : Int32) (k : Nat) : Int32 := rankV (R 1 k - u 16) (R 3 k) (R 0 k) way sweep
set_option maxRecDepth 20000 in
theorem c_lowest {way sweep : Int32} {m : Nat} (hn : n = nI m) (hm : m ≤ 12) (hQ : Q (.inl (some (.int (ix (pick (rkF u R way sweep) m))))) (stA 0 u n S R L)) : Tr tX6_lowest 0 0 [.ref 0, .int way, .int sweep] (stA 0 u n S R L) Q := by
  refine Tr.of sX6_lowest (by decide +kernel) (Nat.le_of_ble_eq_true rfl) fun X hX => ?_
  have key : ∀ (d i : Nat) (iv least : Int32) (tmp : Option Value), i + d = m → iv = nI i → (∀ b, pick (rkF u R way sweep) i = some b → least = rkF u R way sweep b) → X 8 [some (.ref 0), some (.int way), some (.int sweep), some (.int (ix (pick (rkF u R way sweep) i))), some (.int least), some (.int iv), tmp] [] (stA 0 u n S R L) (0, 0) := by
    intro d
    induction d with
    | zero =>
      intro i iv least tmp hi hv hb
      rw [show m = i by omega] at hQ
      refine go hX (fun _ => none) 40 ?_
      refine And.intro (fun _ => hQ) (fun h => ?_)
      exact absurd (by rw [hn, hv, show i = m by omega]; exact Int32.le_refl _) h
    | succ d ih =>
      intro i iv least tmp hi hv hb
      refine go hX (fun pc => if pc = 8 then some 7 else none) 40 ?_
      have hl : ¬ n ≤ iv := by rw [hn, hv]; exact nI_ge (by omega) (by omega)
      refine And.intro (fun h => absurd h hl) (fun _ => ?_)
      refine c_rankOf hv (by omega) ?_
      have ih1 := fun least => ih (i + 1) (iv + 1) least (some (.int (rkF u R way sweep i))) (by omega) (by rw [hv]; exact nI_1 i)
      refine And.intro (fun h => ?_) (fun h => And.intro (fun h2 => ?_) (fun h2 => And.intro (fun h3 => ?_) (fun h3 => ?_)))
      · have e : pick (rkF u R way sweep) (i + 1) = pick (rkF u R way sweep) i := by
          show (match pick (rkF u R way sweep) i with | none => _ | some b => _) = _
          cases pick (rkF u R way sweep) i with
          | none => exact if_pos h
          | some b => exact if_pos h
        have := ih1 least
        rw [e] at this
        exact this hb
      · have e0 : pick (rkF u R way sweep) i = none := by
          cases hp : pick (rkF u R way sweep) i with
          | none => rfl
          | some b =>
            rw [hp] at h2
            exact absurd h2 (by have := pick_lt hp; show ¬ nI b = -1; intro z; have z2 := congrArg Int32.toInt z; rw [nI_toInt (by omega)] at z2; have : ((-1 : Int32).toInt) = -1 := by decide
                                omega)
        have e : pick (rkF u R way sweep) (i + 1) = some i := by
          show (match pick (rkF u R way sweep) i with | none => _ | some b => _) = _
          rw [e0]
          exact if_neg h
        have := ih1 (rkF u R way sweep i)
        rw [e] at this
        rw [hv]
        rw [hv] at this
        exact this (fun b hb2 => by cases hb2; rfl)
      · cases hp : pick (rkF u R way sweep) i with
        | none => rw [hp] at h2; exact absurd rfl h2
        | some b =>
          have e1 := hb b hp
          have e : pick (rkF u R way sweep) (i + 1) = some b := by
            show (match pick (rkF u R way sweep) i with | none => _ | some b => _) = _
            rw [hp]
            exact (if_neg h).trans (if_pos (by rw [← e1]; exact h3))
          have := ih1 least
          rw [e] at this
          exact this (fun b' hb2 => by cases hb2; exact e1)
      · cases hp : pick (rkF u R way sweep) i with
        | none => rw [hp] at h2; exact absurd rfl h2
        | some b =>
          have e1 := hb b hp
          have e : pick (rkF u R way sweep) (i + 1) = some i := by
            show (match pick (rkF u R way sweep) i with | none => _ | some b => _) = _
            rw [hp]
            exact (if_neg h).trans (if_neg (by rw [← e1]; exact h3))
          have := ih1 (rkF u R way sweep i)
          rw [e] at this
          rw [hv]
          rw [hv] at this
          exact this (fun b' hb2 => by cases hb2; rfl)
  refine go hX (fun pc => if pc = 8 then some 7 else none) 40 ?_
  exact key m 0 0 0 none (by omega) rfl (fun b hb => nomatch hb)

