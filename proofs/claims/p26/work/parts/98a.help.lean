/-! ===== the law's helpers over the whole world ===== -/
variable {Q : AQ} {mc ms T : Nat} {sc len : Int32} {S L B : Nat → Int32} {R fc : Nat → Nat → Int32} {s : Sg} {c : Scn} {f : Nat → Option Nat} {tw : Wd} {wn : Nat → Wd} {g : Nat → Int64} {n0 n1 n2 n3 n4 n5 : AO}
/-- what a call of the object promises -/
def OC (d : TrD) (a : List Value) (M : AM) (P : AM → Prop) (E1 E2 : String) (k v : Int32) : Prop := ∀ Q : AQ, (∀ M1, P M1 → Q (exO E1 E2 k v) M1) → Tr d 1 6 a M Q
theorem OC.pre {d : TrD} {a : List Value} {M N : AM} {P : AM → Prop} {E1 E2 : String} {k v : Int32} (h : OC d a M P E1 E2 k v) (hl : M.length = 83) (hM : mcl M) (ha : scl 83 a) (hP : ∀ M1, P M1 → M1.length = 83) (hQ : ∀ M1, P M1 → mcl M1 → Q (exO E1 E2 k v) (M1 ++ N)) : Tr d 1 6 a (M ++ N) Q :=
  Tr.pre (Q := fun o M1 => o = exO E1 E2 k v ∧ P M1) (h _ fun M1 hp => ⟨rfl, hp⟩) hl (by decide +kernel) hM ha (fun o M1 q hc => by
    rw [q.1]
    exact ⟨hP M1 q.2, fun f => upr_exO, hQ M1 q.2 hc⟩)
/-- the object's part of the world keeps its length -/
def P5 (P : AM → Prop) : Prop := ∀ M1, P M1 → ∃ sc s S R L tw f fc len B c wn, M1 = p5 sc s S R L tw f fc len B c (wins wn)
theorem cw_p5 {T : Nat} {a : Kp} {n : Nat} {b : Nat → Int32} : P5 (CW T a n b) := fun M1 h => by
  obtain ⟨S, R, L, tw, f, fc, B, c, wn, rfl, -⟩ := h
  exact ⟨_, _, _, _, _, _, _, _, _, _, _, _, rfl⟩
theorem P5.sz {P : AM → Prop} (h : P5 P) : ∀ M1, P M1 → M1.length = 83 := fun M1 hp => by
  obtain ⟨sc, s, S, R, L, tw, f, fc, len, B, c, wn, rfl⟩ := h M1 hp
  rfl
