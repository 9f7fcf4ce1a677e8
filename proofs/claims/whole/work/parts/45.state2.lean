/-! ===== State: targets, reading, giving up ===== -/
variable {u : Nat → Int32} {n : Int32} {S : Nat → Int32} {R : Nat → Nat → Int32} {L : Nat → Int32} {Q : AQ}
theorem ix_ne {k : Nat} (h : k < 2 ^ 31) : ¬ ix (some k) = -1 := by
  show ¬ nI k = -1
  intro z
  have z2 := congrArg Int32.toInt z
  rw [nI_toInt h] at z2
  have : ((-1 : Int32).toInt) = -1 := by decide
  omega
def tgtF (u : Nat → Int32) (R : Nat → Nat → Int32) (m : Nat) (way : Int32) : Option Nat := match pick (rkF u R way (u 20)) m with
  | some k => some k
  | none => pick (rkF u R way (opp (u 20))) m
theorem tgtF_lt {u : Nat → Int32} {R : Nat → Nat → Int32} {m : Nat} {way : Int32} {k : Nat} (h : tgtF u R m way = some k) : k < m := by
  unfold tgtF at h
  split at h
  · rename_i hp; cases h; exact pick_lt hp
  · exact pick_lt h
set_option maxRecDepth 20000 in
theorem c_targetBy {way : Int32} {m : Nat} (hn : n = nI m) (hm : m ≤ 12) (hQ : Q (.inl (some (.int (ix (tgtF u R m way))))) (stA 0 u n S R L)) : Tr tX6_targetBy 0 0 [.ref 0, .int way] (stA 0 u n S R L) Q := by
  refine Tr.run sX6_targetBy (by decide +kernel) rfl 60 fun X => ?_
  refine c_lowest hn hm ?_
  unfold tgtF at hQ
  cases hp : pick (rkF u R way (u 20)) m with
  | none =>
    rw [hp] at hQ
    refine And.intro (fun _ => ?_) (fun h => absurd rfl h)
    refine c_opposite ?_
    refine c_lowest hn hm ?_
    exact hQ
  | some k =>
    rw [hp] at hQ
    exact And.intro (fun h => absurd h (ix_ne (by have := pick_lt hp; omega))) (fun _ => hQ)
set_option maxRecDepth 20000 in
theorem c_under (h1 : ¬ u 1 = 0) (hQ : Q (.inl (some (.int (u 6 % u 1)))) (stA 0 u n S R L)) : Tr tX6_sectorUnderArm 0 0 [.ref 0] (stA 0 u n S R L) Q := by
  refine Tr.run sX6_sectorUnderArm (by decide +kernel) rfl 60 fun X => ?_
  exact And.intro (fun _ => ⟨h1, hQ⟩) (fun h => absurd h h1)
def hindL (u : Nat → Int32) (R : Nat → Nat → Int32) (i : Nat) : Int32 := if R 2 i = u 6 % u 1 then 0 else 4
def hindF (u : Nat → Int32) (R : Nat → Nat → Int32) (m : Nat) (way : Int32) (i : Nat) : Int32 :=
  if u 17 = 0 then
    if R 1 i = u 16 then
      match tgtF u R m way with
      | none => hindL u R i
      | some k => if R 1 k = u 16 then hindL u R i else if u 19 = 0 then 3 else hindL u R i
    else 2
  else 1
set_option maxRecDepth 20000 in
theorem c_hindrance {iv : Int32} {i m : Nat} (hn : n = nI m) (hm : m ≤ 12) (hi : iv = nI i) (him : i < 12) (h1 : ¬ u 1 = 0) (hQ : Q (.inl (some (.int (hindF u R m (S 0) i)))) (stA 0 u n S R L)) : Tr tX6_hindranceOf 0 0 [.ref 0, .int iv] (stA 0 u n S R L) Q := by
  have v0 : vp_in iv 12 := by rw [hi]; exact in_nI him (by decide)
  have v1 : iv.toNatClampNeg = i := by rw [hi]; exact nI_clamp (by omega)
  subst v1
  refine Tr.of sX6_hindranceOf (by decide +kernel) (Nat.le_of_ble_eq_true rfl) fun X hX => ?_
  have last : (hindF u R m (S 0) iv.toNatClampNeg = hindL u R iv.toNatClampNeg) → ∀ x, X 80 [some (.ref 0), some (.int iv), x] [] (stA 0 u n S R L) (0, 0) := by
    intro he x
    rw [he] at hQ
    unfold hindL at hQ
    refine go hX (fun _ => none) 60 ?_
    refine ⟨v0, ?_⟩
    refine c_under h1 ?_
    refine And.intro (fun h => ?_) (fun h => ?_)
    · rw [if_pos h] at hQ; exact hQ
    · rw [if_neg h] at hQ; exact hQ
  refine go hX (fun pc => if pc = 80 then some 3 else none) 60 ?_
  have e0 : hindF u R m (S 0) iv.toNatClampNeg = (if u 17 = 0 then if R 1 iv.toNatClampNeg = u 16 then match tgtF u R m (S 0) with | none => hindL u R iv.toNatClampNeg | some k => if R 1 k = u 16 then hindL u R iv.toNatClampNeg else if u 19 = 0 then 3 else hindL u R iv.toNatClampNeg else 2 else 1) := rfl
  refine And.intro (fun h => ⟨v0, And.intro (fun h2 => ?_) (fun h2 => ?_)⟩) (fun h => ?_)
  · rw [if_pos h, if_pos h2] at e0
    refine ⟨in_lit (by decide), ?_⟩
    refine c_targetBy (way := S 0) hn hm ?_
    cases ht : tgtF u R m (S 0) with
    | none =>
      rw [ht] at e0
      exact And.intro (fun _ => last e0 _) (fun h => absurd rfl h)
    | some k =>
      rw [ht] at e0
      have hk := tgtF_lt ht
      have e1 : (ix (some k)).toNatClampNeg = k := nI_clamp (by omega)
      have e2 : vp_in (ix (some k)) 12 := in_nI (by omega) (by decide)
      refine And.intro (fun h => absurd h (ix_ne (by omega))) (fun _ => ⟨e2, ?_⟩)
      rw [e1]
      refine And.intro (fun h3 => ?_) (fun h3 => ?_)
      · exact last (e0.trans (if_pos h3)) _
      · have e3 := e0.trans (if_neg h3)
        refine And.intro (fun h4 => ?_) (fun h4 => ?_)
        · exact last (e3.trans (if_neg h4)) _
        · rw [e3.trans (if_pos h4)] at hQ
          exact hQ
  · rw [if_pos h, if_neg h2] at e0
    rw [e0] at hQ
    exact hQ
  · rw [if_neg h] at e0
    rw [e0] at hQ
    exact hQ
