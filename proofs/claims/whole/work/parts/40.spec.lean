/-! ===== the mathematical state ===== -/
theorem Tr.run {d : TrD} {mc ms : Nat} {a : List Value} {M : AM} {Q : AQ} {code : Nat → WOp} (hs : ∀ pc, Snd d (fun _ _ _ => True) pc (code pc)) (hy : plainName d.1.cls = true) (hn : Nat.ble (a.flatMap entV).length d.2.2.1 = true) (n : Nat)
    (h : ∀ X : WK, code 0 (blk code X Q (fun _ => none) n) Q (entL d.2.2.1 a) [] M (mc, ms)) : Tr d mc ms a M Q :=
  Tr.of hs hy (Nat.le_of_ble_eq_true hn) fun X hX => go hX (fun _ => none) n (h X)
abbrev Rq : Type := Int32 × Int32 × Int32 × Int32 × Int32
abbrev Sg : Type := (Nat → Int32) × List Rq × List Rq
def rf (r : Rq) : Nat → Int32
  | 0 => r.1
  | 1 => r.2.1
  | 2 => r.2.2.1
  | 3 => r.2.2.2.1
  | _ => r.2.2.2.2
def opp (d : Int32) : Int32 := if d = 1 then 2 else 1
def ix : Option Nat → Int32
  | none => -1
  | some k => nI k
theorem mod_nI {m k : Nat} (hm : m < 2 ^ 31) (hk : k < 2 ^ 31) : nI m % nI k = nI (m % k) := by
  rw [← Int32.toInt_inj, Int32.toInt_mod, nI_toInt hm, nI_toInt hk]
  have h2 : m % k ≤ m := Nat.mod_le m k
  rw [nI_toInt (by omega)]
  exact Int.ofNat_tmod m k
theorem mul_nI (a b : Nat) : nI a * nI b = nI (a * b) := (Int32.ofNat_mul a b).symm
theorem sub_nI {a b : Nat} (h : b ≤ a) : nI a - nI b = nI (a - b) := by
  rw [show nI a = nI (a - b) + nI b by rw [nI_add]; congr 1; omega]
  exact Int32.add_sub_cancel _ _
theorem in_nI {c N : Nat} (h : c < N) (hN : N ≤ 1000000) : vp_in (nI c) N := nI_in h (by omega)
theorem in_lit {x : Int32} {N : Nat} (h : ¬ (x < 0 ∨ N ≤ x.toNatClampNeg)) : vp_in x N := h
