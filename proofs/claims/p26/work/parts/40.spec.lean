/-! ===== the mathematical state ===== -/
theorem Tr.run {d : TrD} {mc ms : Nat} {a : List Value} {M : AM} {Q : AQ} {code : Nat → WOp} (hs : ∀ pc, Snd d (fun _ _ _ => True) pc (code pc)) (hy : plainName d.1.cls = true) (hn : Nat.ble (a.flatMap entV).length d.2.2.1 = true) (n : Nat)
    (h : ∀ X : WK, code 0 (blk code X Q (fun _ => none) n) Q (entL d.2.2.1 a) [] M (mc, ms)) : Tr d mc ms a M Q :=
  Tr.of hs hy (Nat.le_of_ble_eq_true hn) fun X hX => go hX (fun _ => none) n (h X)
abbrev Rq : Type := Int32 × Int32 × Int32 × Int32 × Int32
abbrev Sg : Type := (Nat → Int32) × List Rq × List Rq
def rf (r : Rq) : Nat → Int32
  | 0 => r.1
  | 1 => r.2.1
  | 2 => r.2.2.1
  | 3 => r.2.2.2.1
  | _ => r.2.2.2.2
def opp (d : Int32) : Int32 := if d = 1 then 2 else 1
def z01 (p : Prop) [Decidable p] : Int32 := if p then 1 else 0
theorem z01_t {p : Prop} [Decidable p] (h : p) : z01 p = 1 := if_pos h
theorem z01_f {p : Prop} [Decidable p] (h : ¬ p) : z01 p = 0 := if_neg h
theorem z01_c {p : Prop} [Decidable p] : z01 p = 0 ∨ z01 p = 1 := by
  unfold z01
  split
  · exact Or.inr rfl
  · exact Or.inl rfl
def ix : Option Nat → Int32
  | none => -1
  | some k => nI k
theorem mod_nI {m k : Nat} (hm : m < 2 ^ 31) (hk : k < 2 ^ 31) : nI m % nI k = nI (m % k) := by
  rw [← Int32.toInt_inj, Int32.toInt_mod, nI_toInt hm, nI_toInt hk]
  have h2 : m % k ≤ m := Nat.mod_le m k
  rw [nI_toInt (by omega)]
  exact Int.ofNat_tmod m k
theorem mul_nI (a b : Nat) : nI a * nI b = nI (a * b) := (Int32.ofNat_mul a b).symm
theorem sub_nI {a b : Nat} (h : b ≤ a) : nI a - nI b = nI (a - b) := by
  rw [show nI a = nI (a - b) + nI b by rw [nI_add]; congr 1; omega]
  exact Int32.add_sub_cancel _ _
theorem in_nI {c N : Nat} (h : c < N) (hN : N ≤ 1000000) : vp_in (nI c) N := nI_in h (by omega)
theorem in_lit {x : Int32} {N : Nat} (h : ¬ (x < 0 ∨ N ≤ x.toNatClampNeg)) : vp_in x N := h
/-! the log's ring, the requests' rows -/
def LgOk (L : Nat → Int32) (w : Nat) (lg : List Rq) : Prop := lg.length = min w 10 ∧ ∀ (b : Nat) (e : Rq), lg[b]? = some e → ∀ j, j < 5 → L ((w - 1 - b) % 10 * 5 + j) = rf e j
def RqOk (R : Nat → Nat → Int32) (rs : List Rq) : Prop := ∀ (k : Nat) (r : Rq), rs[k]? = some r → ∀ j, j < 5 → R j k = rf r j
theorem LgOk.push {L L1 : Nat → Int32} {w : Nat} {lg : List Rq} {e : Rq} (h : LgOk L w lg) (h1 : ∀ j, j < 5 → L1 (w % 10 * 5 + j) = rf e j) (h2 : ∀ k, (k < w % 10 * 5 ∨ w % 10 * 5 + 5 ≤ k) → L1 k = L k) : LgOk L1 (w + 1) ((e :: lg).take 10) := by
  obtain ⟨hl, ha⟩ := h
  refine ⟨by rw [List.length_take, List.length_cons, hl]; omega, fun b x hb j hj => ?_⟩
  rw [List.getElem?_take] at hb
  split at hb
  · rename_i hb10
    cases b with
    | zero =>
      cases hb
      rw [show (w + 1 - 1 - 0) % 10 * 5 + j = w % 10 * 5 + j by omega]
      exact h1 j hj
    | succ b =>
      have hb2 : lg[b]? = some x := hb
      have hlt := (List.getElem?_eq_some_iff.mp hb2).1
      have := ha b x hb2 j hj
      rw [show w + 1 - 1 - (b + 1) = w - 1 - b by omega, h2 _ (by omega)]
      exact this
  · cases hb
def hitS (u : Nat → Int32) (r : Rq) : Bool := decide (r.2.1 = u 16 ∧ r.2.2.1 = u 6 % u 1)
def lateS (u : Nat → Int32) (r : Rq) : Int32 := z01 (r.2.2.2.1 < u 6)
def rdS (u : Nat → Int32) (a : (Nat → Int32) × List Rq) (r : Rq) : (Nat → Int32) × List Rq :=
  (upd (upd a.1 8 (a.1 8 + 1)) 9 (a.1 9 + lateS u r), (((r.1, u 16, u 6 % u 1, u 6, lateS u r) : Rq) :: a.2).take 10)
def readS (s : Sg) : Sg := (((s.2.1.filter (hitS s.1)).foldl (rdS s.1) (s.1, s.2.2)).1, s.2.1.filter (fun r => !hitS s.1 r), ((s.2.1.filter (hitS s.1)).foldl (rdS s.1) (s.1, s.2.2)).2)
def goneS (u : Nat → Int32) (r : Rq) : Bool := decide (r.2.2.2.1 + u 5 < u 6)
def giveS (s : Sg) : Sg := (upd s.1 10 (s.1 10 + nI (s.2.1.countP (goneS s.1))), s.2.1.filter (fun r => !goneS s.1 r), s.2.2)

