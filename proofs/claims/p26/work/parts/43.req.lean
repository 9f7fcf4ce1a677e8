/-! ===== Requests ===== -/
def rqW (k : Nat) (c t : Int32) (R : Nat → Nat → Int32) : AM := [.inr (4, [.int c, .int t, .ref (k + 1), .ref (k + 2), .ref (k + 3), .ref (k + 4), .ref (k + 5)]), .inl (0, 12, .inl (R 0)), .inl (0, 12, .inl (R 1)), .inl (0, 12, .inl (R 2)), .inl (0, 12, .inl (R 3)), .inl (0, 12, .inl (R 4))]
set_option maxRecDepth 20000 in
theorem c_rreset {c t : Int32} {R : Nat → Nat → Int32} {Q : AQ} (hQ : Q (.inl none) (rqW 0 0 0 R)) : Tr tX5_reset 0 0 [.ref 0] (rqW 0 c t R) Q := by
  refine Tr.run sX5_reset (by decide +kernel) rfl 30 fun X => ?_
  exact hQ
def sel5 {α : Type} (a b c d e : α) : Nat → α
  | 0 => a
  | 1 => b
  | 2 => c
  | 3 => d
  | _ => e
set_option maxRecDepth 20000 in
theorem c_rcopy {c t c1 t1 : Int32} {R R1 : Nat → Nat → Int32} {Q : AQ} (hQ : ∀ R2 : Nat → Nat → Int32, (∀ j, j < 5 → ∀ k, k < 12 → R2 j k = R1 j k) → Q (.inl none) (rqW 0 c1 t1 R2 ++ rqW 6 c1 t1 R1)) : Tr tX5_copyFrom 0 0 [.ref 0, .ref 6] (rqW 0 c t R ++ rqW 6 c1 t1 R1) Q := by
  refine Tr.run sX5_copyFrom (by decide +kernel) rfl 60 fun X => ?_
  have h : ¬ (0 : Int32) < 0 ∧ ¬ (0 : Int32) < 0 ∧ ¬ (12 : Int32) < 0 ∧ (0 : Int32).toNatClampNeg + (12 : Int32).toNatClampNeg ≤ 12 ∧ (0 : Int32).toNatClampNeg + (12 : Int32).toNatClampNeg ≤ 12 := by decide
  refine ⟨h, h, h, h, h, ?_⟩
  have hj : ∀ (f g : Nat → Int32) (k : Nat), k < 12 → va_cpy f g (0 : Int32).toNatClampNeg (0 : Int32).toNatClampNeg (12 : Int32).toNatClampNeg k = f k := fun f g k hk => cpy0 (n := 12) rfl hk
  refine hQ (sel5 (va_cpy (R1 0) (R 0) _ _ _) (va_cpy (R1 1) (R 1) _ _ _) (va_cpy (R1 2) (R 2) _ _ _) (va_cpy (R1 3) (R 3) _ _ _) (va_cpy (R1 4) (R 4) _ _ _)) ?_
  intro j hj5 k hk
  match j, hj5 with
  | 0, _ => exact hj _ _ k hk
  | 1, _ => exact hj _ _ k hk
  | 2, _ => exact hj _ _ k hk
  | 3, _ => exact hj _ _ k hk
  | 4, _ => exact hj _ _ k hk
set_option maxRecDepth 20000 in
theorem c_isFull {c t : Int32} {R : Nat → Nat → Int32} {Q : AQ} (hQ : Q (.inl (some (.int (z01 (12 ≤ c))))) (rqW 0 c t R)) : Tr tX5_isFull 0 0 [.ref 0] (rqW 0 c t R) Q := by
  refine Tr.run sX5_isFull (by decide +kernel) rfl 30 fun X => ?_
  refine And.intro (fun h => ⟨rfl, ?_⟩) (fun h => ⟨rfl, ?_⟩)
  · rw [z01_f (Int32.not_le.mpr h)] at hQ; exact hQ
  · rw [z01_t (Int32.not_lt.mp h)] at hQ; exact hQ
set_option maxRecDepth 20000 in
theorem c_move {c t : Int32} {R : Nat → Nat → Int32} {i j : Nat} {Q : AQ} (hi : i < 12) (hj : j < 12) {iv jv : Int32} (ei : iv = nI i) (ej : jv = nI j) (hQ : Q (.inl none) (rqW 0 c t (fun m => upd (R m) j (R m i)))) : Tr tX5_move 0 0 [.ref 0, .int iv, .int jv] (rqW 0 c t R) Q := by
  have i0 : vp_in iv 12 := by rw [ei]; exact in_nI hi (by decide)
  have j0 : vp_in jv 12 := by rw [ej]; exact in_nI hj (by decide)
  have i1 : iv.toNatClampNeg = i := by rw [ei]; exact nI_clamp (by omega)
  have j1 : jv.toNatClampNeg = j := by rw [ej]; exact nI_clamp (by omega)
  refine Tr.run sX5_move (by decide +kernel) rfl 60 fun X => ?_
  subst i1 j1
  exact ⟨i0, j0, i0, j0, i0, j0, i0, j0, i0, j0, hQ⟩
set_option maxRecDepth 20000 in
theorem c_add {c t tr se de ti : Int32} {R : Nat → Nat → Int32} {n : Nat} {Q : AQ} (hc : c = nI n) (hn : n < 12) (hQ : Q (.inl (some (.int t))) (rqW 0 (c + 1) (t + 1) (fun m => upd (R m) n (rf (t, tr, se, de, ti) m)))) : Tr tX5_add 0 0 [.ref 0, .int tr, .int se, .int de, .int ti] (rqW 0 c t R) Q := by
  have c0 : vp_in c 12 := by rw [hc]; exact in_nI hn (by decide)
  have c1 : c.toNatClampNeg = n := by rw [hc]; exact nI_clamp (by omega)
  have e : c + 1 - 1 = c := Int32.add_sub_cancel _ _
  have c2 : vp_in (c + 1 - 1) 12 := by rw [e]; exact c0
  have c3 : upd (R 0) c.toNatClampNeg t (c + 1 - 1).toNatClampNeg = t := by rw [e]; exact if_pos rfl
  refine Tr.run sX5_add (by decide +kernel) rfl 80 fun X => ?_
  have hf : ¬ (12 : Int32) ≤ c := by rw [hc]; exact nI_ge hn (by decide)
  refine c_isFull ?_
  rw [z01_f hf]
  refine And.intro (fun h => ?_) (fun h => absurd rfl h)
  subst c1
  have hQ2 : Q (.inl (some (.int (upd (R 0) c.toNatClampNeg t (c + 1 - 1).toNatClampNeg)))) (rqW 0 (c + 1) (t + 1) (fun m => upd (R m) c.toNatClampNeg (rf (t, tr, se, de, ti) m))) := by rw [c3]; exact hQ
  exact ⟨c0, c0, c0, c0, c0, c2, hQ2⟩
set_option maxRecDepth 20000 in
theorem c_rinit {c t : Int32} {a1 a2 a3 a4 a5 : Value} {Q : AQ} (hQ : Q (.inl none) (rqW 0 c t (fun _ _ => 0))) : Tr tX5_init 5 60 [.ref 0] [.inr (4, [.int c, .int t, a1, a2, a3, a4, a5])] Q := by
  refine Tr.run sX5_init (by decide +kernel) rfl 60 fun X => ?_
  exact ⟨rfl, trivial, rfl, trivial, rfl, trivial, rfl, trivial, rfl, trivial, hQ⟩

/-- where a number stands, from i on -/
def fndN (f : Nat → Int32) (x : Int32) : Nat → Nat → Option Nat
  | 0, _ => none
  | m + 1, i => if f i = x then some i else fndN f x m (i + 1)
set_option maxRecDepth 20000 in
theorem c_indexOf {c t x : Int32} {R : Nat → Nat → Int32} {n : Nat} {Q : AQ} (hc : c = nI n) (hn : n ≤ 12) (hQ : Q (.inl (some (.int (ix (fndN (R 0) x n 0))))) (rqW 0 c t R)) : Tr tX5_indexOf 0 0 [.ref 0, .int x] (rqW 0 c t R) Q := by
  refine Tr.of sX5_indexOf (by decide +kernel) (Nat.le_of_ble_eq_true rfl) fun X hX => ?_
  have key : ∀ (m i : Nat) (iv : Int32), i + m = n → iv = nI i → Q (.inl (some (.int (ix (fndN (R 0) x m i))))) (rqW 0 c t R) → X 2 [some (.ref 0), some (.int x), some (.int iv)] [] (rqW 0 c t R) (0, 0) := by
    intro m
    induction m with
    | zero =>
      intro i iv hi hv hq
      refine go hX (fun _ => none) 30 ?_
      refine And.intro (fun _ => hq) (fun h => ?_)
      exact absurd (by rw [hc, hv, show i = n by omega]; exact Int32.le_refl _) h
    | succ m ih =>
      intro i iv hi hv hq
      refine go hX (fun pc => if pc = 2 then some 3 else none) 30 ?_
      have hl : ¬ c ≤ iv := by rw [hc, hv]; exact nI_ge (by omega) (by omega)
      have h0 : vp_in iv 12 := by rw [hv]; exact in_nI (by omega) (by decide)
      have h1 : iv.toNatClampNeg = i := by rw [hv]; exact nI_clamp (by omega)
      refine And.intro (fun h => absurd h hl) (fun _ => ⟨h0, And.intro (fun h => ?_) (fun h => ?_)⟩)
      · rw [h1] at h
        refine ih (i + 1) (iv + 1) (by omega) (by rw [hv]; exact nI_1 i) ?_
        rw [show fndN (R 0) x (m + 1) i = fndN (R 0) x m (i + 1) from if_neg h] at hq
        exact hq
      · rw [h1] at h
        rw [show fndN (R 0) x (m + 1) i = some i from if_pos h] at hq
        rw [hv]
        exact hq
  refine go hX (fun pc => if pc = 2 then some 3 else none) 30 ?_
  exact key n 0 0 (by omega) rfl hQ
def shf (x k : Nat) : Nat := if k < x then k else k + 1
set_option maxRecDepth 20000 in
theorem c_removeAt {c t xv : Int32} {R : Nat → Nat → Int32} {n x : Nat} {Q : AQ} (hc : c = nI n) (hn : n ≤ 12) (hx : xv = nI x) (hxn : x < n) (hQ : ∀ R1 : Nat → Nat → Int32, (∀ j k, k < n - 1 → R1 j k = R j (shf x k)) → Q (.inl none) (rqW 0 (c - 1) t R1)) : Tr tX5_removeAt 0 0 [.ref 0, .int xv] (rqW 0 c t R) Q := by
  refine Tr.of sX5_removeAt (by decide +kernel) (Nat.le_of_ble_eq_true rfl) fun X hX => ?_
  have key : ∀ (m i : Nat) (iv : Int32) (R1 : Nat → Nat → Int32), i + m = n → iv = nI i → x < i → (∀ j k, k < i - 1 → R1 j k = R j (shf x k)) → (∀ j k, i ≤ k → R1 j k = R j k) → X 4 [some (.ref 0), some (.int xv), some (.int iv)] [] (rqW 0 c t R1) (0, 0) := by
    intro m
    induction m with
    | zero =>
      intro i iv R1 hi hv hxi h1 h2
      refine go hX (fun _ => none) 30 ?_
      refine And.intro (fun _ => hQ R1 (by rw [show n = i by omega]; exact h1)) (fun h => ?_)
      exact absurd (by rw [hc, hv, show i = n by omega]; exact Int32.le_refl _) h
    | succ m ih =>
      intro i iv R1 hi hv hxi h1 h2
      refine go hX (fun pc => if pc = 4 then some 3 else none) 30 ?_
      have hl : ¬ c ≤ iv := by rw [hc, hv]; exact nI_ge (by omega) (by omega)
      refine And.intro (fun h => absurd h hl) (fun _ => ?_)
      refine c_move (i := i) (j := i - 1) (by omega) (by omega) hv (by rw [hv]; exact sub_nI (a := i) (b := 1) (by omega)) ?_
      refine ih (i + 1) (iv + 1) _ (by omega) (by rw [hv]; exact nI_1 i) (by omega) ?_ ?_
      · intro j k hk
        show upd (R1 j) (i - 1) (R1 j i) k = _
        unfold upd
        by_cases hk2 : k = i - 1
        · rw [if_pos hk2, h2 j i (Nat.le_refl _)]
          unfold shf
          rw [if_neg (by omega)]
          congr 1
          omega
        · rw [if_neg hk2]
          exact h1 j k (by omega)
      · intro j k hk
        show upd (R1 j) (i - 1) (R1 j i) k = _
        unfold upd
        rw [if_neg (by omega)]
        exact h2 j k (by omega)
  refine go hX (fun pc => if pc = 4 then some 3 else none) 30 ?_
  exact key (n - (x + 1)) (x + 1) (xv + 1) R (by omega) (by rw [hx]; exact nI_1 x) (by omega) (fun j k hk => by unfold shf; rw [if_pos (by omega)]) (fun j k _ => rfl)
