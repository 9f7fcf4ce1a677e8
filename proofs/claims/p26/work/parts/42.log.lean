/-! ===== Log ===== -/
def lgW (k : Nat) (w : Int32) (L : Nat → Int32) : AM := [.inr (3, [.int w, .ref (k + 1)]), .inl (0, 50, .inl L)]
theorem upd5 {f : Nat → Int32} {p i0 i1 i2 i3 i4 : Nat} {a b c d e : Int32} (h0 : i0 = p) (h1 : i1 = p + 1) (h2 : i2 = p + 2) (h3 : i3 = p + 3) (h4 : i4 = p + 4) : (∀ j, j < 5 → upd (upd (upd (upd (upd f i0 a) i1 b) i2 c) i3 d) i4 e (p + j) = rf (a, b, c, d, e) j) ∧ ∀ k, (k < p ∨ p + 5 ≤ k) → upd (upd (upd (upd (upd f i0 a) i1 b) i2 c) i3 d) i4 e k = f k := by
  subst h0 h1 h2 h3 h4
  refine ⟨fun j hj => ?_, fun k hk => ?_⟩
  · match j, hj with
    | 0, _ => simp [upd, rf]
    | 1, _ => simp [upd, rf]
    | 2, _ => simp [upd, rf]
    | 3, _ => simp [upd, rf]
    | 4, _ => simp [upd, rf]
  · unfold upd
    rw [if_neg (by omega), if_neg (by omega), if_neg (by omega), if_neg (by omega), if_neg (by omega)]
theorem cpy0 {f g : Nat → Int32} {n : Nat} {z : Int32} (hz : z.toNatClampNeg = n) {k : Nat} (hk : k < n) : va_cpy f g (0 : Int32).toNatClampNeg (0 : Int32).toNatClampNeg z.toNatClampNeg k = f k := by
  unfold va_cpy
  rw [hz, show (0 : Int32).toNatClampNeg = 0 from rfl, if_pos ⟨Nat.zero_le _, by omega⟩]
  congr 1
  omega
set_option maxRecDepth 20000 in
theorem c_lreset {w : Int32} {L : Nat → Int32} {Q : AQ} (hQ : Q (.inl none) (lgW 0 0 L)) : Tr tX4_reset 0 0 [.ref 0] (lgW 0 w L) Q := by
  refine Tr.run sX4_reset (by decide +kernel) rfl 30 fun X => ?_
  exact hQ
set_option maxRecDepth 20000 in
theorem c_lcopy {w w1 : Int32} {L L1 : Nat → Int32} {Q : AQ} (hQ : ∀ L2 : Nat → Int32, (∀ k, k < 50 → L2 k = L1 k) → Q (.inl none) (lgW 0 w1 L2 ++ lgW 2 w1 L1)) : Tr tX4_copyFrom 0 0 [.ref 0, .ref 2] (lgW 0 w L ++ lgW 2 w1 L1) Q := by
  refine Tr.run sX4_copyFrom (by decide +kernel) rfl 30 fun X => ?_
  exact ⟨⟨by decide, by decide, by decide, by decide, by decide⟩, hQ _ fun k hk => cpy0 (n := 50) rfl hk⟩
set_option maxRecDepth 20000 in
theorem c_kept {w : Int32} {L : Nat → Int32} {Q : AQ} (hQ : Q (.inl (some (.int (if 10 < w then 10 else w)))) (lgW 0 w L)) : Tr tX4_kept 0 0 [.ref 0] (lgW 0 w L) Q := by
  refine Tr.run sX4_kept (by decide +kernel) rfl 30 fun X => ?_
  exact hQ
set_option maxRecDepth 20000 in
theorem c_write {w rq tr se ti la : Int32} {p : Nat} {L : Nat → Int32} {Q : AQ} (hw : w % 10 * 5 = nI p) (hp : p ≤ 45) (hl : la = 0 ∨ la = 1) (hQ : ∀ L1 : Nat → Int32, (∀ j, j < 5 → L1 (p + j) = rf (rq, tr, se, ti, la) j) → (∀ k, (k < p ∨ p + 5 ≤ k) → L1 k = L k) → Q (.inl none) (lgW 0 (w + 1) L1)) : Tr tX4_write 0 0 [.ref 0, .int rq, .int tr, .int se, .int ti, .int la] (lgW 0 w L) Q := by
  have e0 : (w % 10 * 5).toNatClampNeg = p := by rw [hw]; exact nI_clamp (by omega)
  have n1 : w % 10 * 5 + 1 = nI (p + 1) := by rw [hw]; exact nI_1 p
  have n2 : w % 10 * 5 + 2 = nI (p + 2) := by rw [hw]; exact nI_add p 2
  have n3 : w % 10 * 5 + 3 = nI (p + 3) := by rw [hw]; exact nI_add p 3
  have n4 : w % 10 * 5 + 4 = nI (p + 4) := by rw [hw]; exact nI_add p 4
  have e1 : (w % 10 * 5 + 1).toNatClampNeg = p + 1 := by rw [n1]; exact nI_clamp (by omega)
  have e2 : (w % 10 * 5 + 2).toNatClampNeg = p + 2 := by rw [n2]; exact nI_clamp (by omega)
  have e3 : (w % 10 * 5 + 3).toNatClampNeg = p + 3 := by rw [n3]; exact nI_clamp (by omega)
  have e4 : (w % 10 * 5 + 4).toNatClampNeg = p + 4 := by rw [n4]; exact nI_clamp (by omega)
  refine Tr.run sX4_write (by decide +kernel) rfl 60 fun X => ?_
  refine ⟨by decide, by rw [hw]; exact in_nI (by omega) (by decide), by rw [n1]; exact in_nI (by omega) (by decide), by rw [n2]; exact in_nI (by omega) (by decide), by rw [n3]; exact in_nI (by omega) (by decide), ?_⟩
  refine And.intro (fun h => ⟨by rw [n4]; exact in_nI (by omega) (by decide), ?_⟩) (fun h => ⟨by rw [n4]; exact in_nI (by omega) (by decide), ?_⟩)
  · subst h
    exact hQ _ (upd5 e0 e1 e2 e3 e4).1 (upd5 e0 e1 e2 e3 e4).2
  · rcases hl with hl | hl
    · exact absurd hl h
    · subst hl
      exact hQ _ (upd5 e0 e1 e2 e3 e4).1 (upd5 e0 e1 e2 e3 e4).2
set_option maxRecDepth 20000 in
theorem c_valueOf {w ba wh : Int32} {q : Nat} {L : Nat → Int32} {Q : AQ} (hx : (w - 1 - ba) % 10 * 5 + wh = nI q) (hq : q < 50) (hQ : Q (.inl (some (.int (L q)))) (lgW 0 w L)) : Tr tX4_valueOf 0 0 [.ref 0, .int ba, .int wh] (lgW 0 w L) Q := by
  have e : ((w - 1 - ba) % 10 * 5 + wh).toNatClampNeg = q := by rw [hx]; exact nI_clamp (by omega)
  rw [← e] at hQ
  refine Tr.run sX4_valueOf (by decide +kernel) rfl 30 fun X => ?_
  exact ⟨by decide, by rw [hx]; exact in_nI hq (by decide), hQ⟩
set_option maxRecDepth 20000 in
theorem c_linit {w : Int32} {k : Value} {Q : AQ} (hQ : Q (.inl none) (lgW 0 w (fun _ => 0))) : Tr tX4_init 1 50 [.ref 0] [.inr (3, [.int w, k])] Q := by
  refine Tr.run sX4_init (by decide +kernel) rfl 30 fun X => ?_
  exact ⟨rfl, trivial, hQ⟩

