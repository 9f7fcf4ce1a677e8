/-! ===== the reference: widest, type, clearCommands, undo, say ===== -/
variable {g P H X G f : Nat → Int32} {h : Int64} {Q : AQ} {T : Nat} {s : Sg}
set_option maxRecDepth 20000 in
theorem m_widest (hR : RS g s) (hI : Inv T s) (hQ : Q (.inl (some (.int (spreadV (trN g) s.2.1.length)))) (mdW g P H X G (upd f 3 0) h)) : Tr tX10_widest 0 0 [.ref 0] (mdW g P H X G f h) Q := by
  refine Tr.run sX10_widest (by decide +kernel) rfl 60 fun Y => ?_
  exact m_widestNow (f := upd f 3 0) hR hI hQ
def TX (X f : Nat → Int32) (tx : List Int32) : Prop := f 2 = nI tx.length ∧ tx.length ≤ 150 ∧ ∀ k, k < tx.length → X k = tx.getD k 0
def typeA (v : Int32) (tx : List Int32) : Int32 × Int32 × List Int32 := if inI v 0 127 = true then (if tx.length = 150 then (2, 0, tx) else (0, nI (tx.length + 1), tx ++ [v])) else (1, 0, tx)
set_option maxRecDepth 20000 in
theorem m_type {v : Int32} {tx : List Int32} (hX1 : TX X f tx) (hQ : ∀ X1 f1 : Nat → Int32, TX X1 f1 (typeA v tx).2.2 → (∀ k, ¬ k = 2 → ¬ k = 3 → f1 k = f k) → f1 3 = (typeA v tx).1 → Q (.inl (some (.int (typeA v tx).2.1))) (mdW g P H X1 G f1 h)) : Tr tX10_type 0 0 [.ref 0, .int v] (mdW g P H X G f h) Q := by
  refine Tr.run sX10_type (by decide +kernel) rfl 60 fun Y => ?_
  obtain ⟨t1, t2, t3⟩ := hX1
  unfold typeA at hQ
  refine m_in ?_
  cases hv : inI v 0 127 with
  | false =>
    rw [hv, if_neg (by decide)] at hQ
    refine And.intro (fun z => absurd rfl z) (fun _ => ?_)
    refine m_throws ?_
    exact And.intro (fun z => absurd z (by decide)) (fun _ => hQ X (upd f 3 1) ⟨t1, t2, t3⟩ (fun k _ k3 => upd_o k3) rfl)
  | true =>
    rw [hv, if_pos rfl] at hQ
    refine And.intro (fun _ => And.intro (fun z => ?_) (fun z => ?_)) (fun z => absurd z (by decide))
    · have h150 : ¬ tx.length = 150 := fun y => z (by rw [t1, y]; rfl)
      rw [if_neg h150] at hQ
      have v0 : vp_in (f 2) 150 := by rw [t1]; exact in_nI (by omega) (by decide)
      have v1 : (f 2).toNatClampNeg = tx.length := by rw [t1]; exact nI_clamp (by omega)
      refine m_throws ?_
      refine And.intro (fun _ => ⟨v0, ?_⟩) (fun z => absurd rfl z)
      have := hQ (upd X (f 2).toNatClampNeg v) (upd (upd f 3 0) 2 (f 2 + 1)) ⟨by rw [upd_i, t1, nI_1, List.length_append, List.length_singleton], by rw [List.length_append, List.length_singleton]; omega, fun k hk => ?_⟩ (fun k k2 k3 => (upd_o k2).trans (upd_o k3)) rfl
      · rw [show nI (tx.length + 1) = f 2 + 1 by rw [t1, nI_1]] at this
        exact this
      · rw [List.length_append, List.length_singleton] at hk
        rw [v1, List.getD_eq_getElem?_getD, List.getElem?_append]
        by_cases hkl : k < tx.length
        · rw [if_pos hkl, upd_o (by omega), t3 k hkl, List.getD_eq_getElem?_getD]
        · rw [if_neg hkl, show k = tx.length by omega, upd_i, Nat.sub_self]
          rfl
    · have h150 : tx.length = 150 := by
        rw [t1] at z
        exact (nI_eq (b := 150) (by omega) (by decide)).mp z
      rw [if_pos h150] at hQ
      refine m_throws ?_
      exact And.intro (fun z => absurd z (by decide)) (fun _ => hQ X (upd f 3 2) ⟨t1, t2, t3⟩ (fun k _ k3 => upd_o k3) rfl)
set_option maxRecDepth 20000 in
theorem m_clear (hQ : Q (.inl (some (.int (f 2)))) (mdW g P H X G (upd (upd f 3 0) 2 0) h)) : Tr tX10_clearCommands 0 0 [.ref 0] (mdW g P H X G f h) Q := by
  refine Tr.run sX10_clearCommands (by decide +kernel) rfl 60 fun Y => ?_
  exact hQ
def undoA (a : Kp) : Int32 × Int32 × Kp := if a.2.length = 0 then (1, 0, a) else (0, nI (a.2.length - 1), (a.2.getD (a.2.length - 1) initS, a.2.take (a.2.length - 1)))
set_option maxRecDepth 20000 in
theorem m_undo {a : Kp} (hR : RS g a.1) (hK : KR P f a.2) (hQ : Kq Q X G f h (undoA a)) : Tr tX10_undo 0 0 [.ref 0] (mdW g P H X G f h) Q := by
  refine Tr.of sX10_undo (by decide +kernel) (Nat.le_of_ble_eq_true rfl) fun Y hX => ?_
  unfold undoA at hQ
  obtain ⟨k1, k2, k3⟩ := id hK
  refine go hX (fun pc => if pc = 33 then some 2 else none) 60 ?_
  refine And.intro (fun z => ?_) (fun z => ?_)
  · have hn : ¬ a.2.length = 0 := fun y => z (by rw [k1, y]; rfl)
    rw [if_neg hn] at hQ
    refine m_throws ?_
    refine And.intro (fun _ => ?_) (fun z => absurd rfl z)
    generalize hc : a.2.length - 1 = c at *
    have e0 : f 0 - 1 = nI c := by rw [k1, ← hc]; exact sub_nI (a := a.2.length) (b := 1) (by omega)
    have hcl : c < a.2.length := by omega
    obtain ⟨q1, q2⟩ := k3 c _ (List.getElem?_eq_getElem hcl)
    have key : ∀ (d i : Nat) (jv : Int32) (g1 : Nat → Int32), i + d = 133 → jv = nI i → (∀ k, k < i → g1 k = P (133 * c + k)) → Y 33 [some (.ref 0), some (.int jv)] [] (mdW g1 P H X G (upd (upd f 3 0) 0 (nI c)) h) (0, 0) := by
      intro d
      induction d with
      | zero =>
        intro i jv g1 hi hj h1
        refine go hX (fun _ => none) 40 ?_
        refine And.intro (fun _ => ?_) (fun h => absurd (by rw [hj, show i = 133 by omega]; exact Int32.le_refl _) h)
        refine hQ g1 P H (upd (upd f 3 0) 0 (nI c)) ?_ ⟨?_, ?_, fun j x hx => ?_⟩ (fun k k0 k3 _ => (upd_o k0).trans (upd_o k3)) rfl
        · show RS g1 (a.2.getD c initS)
          rw [List.getD_eq_getElem?_getD, List.getElem?_eq_getElem hcl]
          exact q1.cg q2 (fun k hk => h1 k (by omega))
        · show nI c = nI (a.2.take c).length
          rw [List.length_take]
          congr 1
          omega
        · show (a.2.take c).length ≤ 4
          rw [List.length_take]
          omega
        · have hx' : (a.2.take c)[j]? = some x := hx
          rw [List.getElem?_take] at hx'
          split at hx'
          · exact k3 j x hx'
          · cases hx'
      | succ d ih =>
        intro i jv g1 hi hj h1
        have v0 : vp_in jv 133 := by rw [hj]; exact in_nI (by omega) (by decide)
        have v1 : jv.toNatClampNeg = i := by rw [hj]; exact nI_clamp (by omega)
        have e2 : (133 : Int32) * nI c + jv = nI (133 * c + i) := by rw [hj, show (133 : Int32) = nI 133 from rfl, mul_nI, nI_add]
        have v2 : vp_in ((133 : Int32) * nI c + jv) 532 := by rw [e2]; exact in_nI (by omega) (by decide)
        have v3 : ((133 : Int32) * nI c + jv).toNatClampNeg = 133 * c + i := by rw [e2]; exact nI_clamp (by omega)
        refine go hX (fun pc => if pc = 33 then some 2 else none) 40 ?_
        refine And.intro (fun h => absurd h (by rw [hj]; exact nI_ge (b := 133) (by omega) (by decide))) (fun _ => ⟨v2, v0, ?_⟩)
        have := ih (i + 1) (jv + 1) (upd g1 jv.toNatClampNeg (P ((133 : Int32) * nI c + jv).toNatClampNeg)) (by omega) (by rw [hj]; exact nI_1 i) (fun k hk => ?_)
        · exact this
        · rw [v1, v3]
          unfold upd
          split
          · rename_i hk2; rw [hk2]
          · exact h1 k (by omega)
    have := key 133 0 0 g (by omega) rfl (fun k hk => absurd hk (Nat.not_lt_zero _))
    rw [← e0] at this
    exact this
  · have hn : a.2.length = 0 := by
      rcases Nat.eq_zero_or_pos a.2.length with y | y
      · exact y
      · rw [k1] at z
        exact absurd z (nI_ne0 y (by omega))
    rw [if_pos hn] at hQ
    refine m_throws ?_
    refine And.intro (fun z => absurd z (by decide)) (fun _ => ?_)
    exact hQ g P H (upd f 3 1) hR (hK.mv rfl) (fun k _ k3 _ => upd_o k3) rfl
def mixH (h : Int64) (v : Int32) : Int64 := 31 * h + v.toInt64
set_option maxRecDepth 20000 in
theorem m_say {v : Int32} (hQ : Q (.inl none) (mdW g P H X G f (mixH h v))) : Tr tX10_say 0 0 [.ref 0, .int v] (mdW g P H X G f h) Q := by
  refine Tr.run sX10_say (by decide +kernel) rfl 60 fun Y => ?_
  exact ⟨trivial, hQ⟩
