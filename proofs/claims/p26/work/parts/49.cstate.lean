/-! ===== State: seeking a reading, copies, a new plate, a new state ===== -/
variable {S : Nat → Int32} {R : Nat → Nat → Int32} {L : Nat → Int32} {Q : AQ} {T : Nat} {s : Sg}
def fndL (x : Int32) (rs : List Rq) : Option Nat := fndN (fun k => (rs.getD k d0).1) x rs.length 0
theorem fndN_eq {f g : Nat → Int32} {x : Int32} : ∀ {m i : Nat}, (∀ k, k < i + m → f k = g k) → fndN f x m i = fndN g x m i
  | 0, _, _ => rfl
  | m + 1, i, h => by
    unfold fndN
    rw [h i (by omega), fndN_eq (m := m) (i := i + 1) fun k hk => h k (by omega)]
theorem fndN_lt {f : Nat → Int32} {x : Int32} : ∀ {m i k : Nat}, fndN f x m i = some k → i ≤ k ∧ k < i + m ∧ f k = x
  | 0, _, _, h => nomatch h
  | m + 1, i, k, h => by
    unfold fndN at h
    split at h
    · cases h; exact ⟨Nat.le_refl _, by omega, by assumption⟩
    · have := fndN_lt h; exact ⟨by omega, by omega, this.2.2⟩
theorem fnd_eq {R : Nat → Nat → Int32} {rs : List Rq} (h : RqOk R rs) (x : Int32) : fndN (R 0) x rs.length 0 = fndL x rs := by
  refine fndN_eq fun k hk => ?_
  have hk : k < rs.length := by omega
  rw [h k rs[k] (List.getElem?_eq_getElem hk) 0 (by decide), List.getD_eq_getElem?_getD, List.getElem?_eq_getElem hk]
  rfl
theorem fndL_lt {x : Int32} {rs : List Rq} {k : Nat} (h : fndL x rs = some k) : k < rs.length := by have := fndN_lt h; omega
def stX (b : Nat) (x y z : Int32) (S : Nat → Int32) (arm : AO) (n t : Int32) (R : Nat → Nat → Int32) (w : Int32) (L : Nat → Int32) (ta : AO) : AM :=
  [.inr (5, [.int x, .int y, .int z, .ref (b + 1), .ref (b + 2), .ref (b + 3), .ref (b + 9), .ref (b + 11)]), .inl (0, 4, .inl S), arm,
   .inr (4, [.int n, .int t, .ref (b + 4), .ref (b + 5), .ref (b + 6), .ref (b + 7), .ref (b + 8)]), .inl (0, 12, .inl (R 0)), .inl (0, 12, .inl (R 1)), .inl (0, 12, .inl (R 2)), .inl (0, 12, .inl (R 3)), .inl (0, 12, .inl (R 4)),
   .inr (3, [.int w, .ref (b + 10)]), .inl (0, 50, .inl L), ta]
def armU (u : Nat → Int32) : AO := armO (u 16) (u 17) (u 18) (u 19) (u 20)
def talU (u : Nat → Int32) : AO := taO (u 9) (u 10) (u 11) (u 12) (u 13) (u 14) (u 15)
set_option maxRecDepth 20000 in
theorem c_scopy {u u1 : Nat → Int32} {n n1 : Int32} {S1 : Nat → Int32} {R1 : Nat → Nat → Int32} {L1 : Nat → Int32} (h19 : u1 19 = 0 ∨ u1 19 = 1) (hQ : ∀ S2 R2 L2, (∀ j, j < 4 → S2 j = S1 j) → (∀ j, j < 5 → ∀ k, k < 12 → R2 j k = R1 j k) → (∀ k, k < 50 → L2 k = L1 k) → Q (.inl none) (stA 0 u1 n1 S2 R2 L2 ++ stA 12 u1 n1 S1 R1 L1)) : Tr tX6_copyFrom 0 0 [.ref 0, .ref 12] (stA 0 u n S R L ++ stA 12 u1 n1 S1 R1 L1) Q := by
  refine Tr.of sX6_copyFrom (by decide +kernel) (Nat.le_of_ble_eq_true rfl) fun X hX => ?_
  have p4 : ∀ S2 R2 L2, (∀ j, j < 4 → S2 j = S1 j) → (∀ j, j < 5 → ∀ k, k < 12 → R2 j k = R1 j k) → (∀ k, k < 50 → L2 k = L1 k) → X 71 [some (.ref 0), some (.ref 12)] [] (stX 0 (u1 0) (u1 1) (u1 6) S2 (armU u1) n1 (u1 7) R2 (u1 8) L2 (talU u) ++ stA 12 u1 n1 S1 R1 L1) (0, 0) := by
    intro S2 R2 L2 hS hR hL
    refine go hX (fun _ => none) 20 ?_
    refine Tr.at [11, 23] (c_tcopy ?_) rfl rfl rfl
    exact hQ S2 R2 L2 hS hR hL
  have p3 : ∀ S2 R2, (∀ j, j < 4 → S2 j = S1 j) → (∀ j, j < 5 → ∀ k, k < 12 → R2 j k = R1 j k) → X 60 [some (.ref 0), some (.ref 12)] [] (stX 0 (u1 0) (u1 1) (u1 6) S2 (armU u1) n1 (u1 7) R2 (u 8) L (talU u) ++ stA 12 u1 n1 S1 R1 L1) (0, 0) := by
    intro S2 R2 hS hR
    refine go hX (fun pc => if pc = 71 then some 2 else none) 20 ?_
    refine Tr.at [9, 10, 21, 22] (c_lcopy (L := L) (L1 := L1) (fun L2 hL2 => ?_)) rfl rfl rfl
    exact p4 S2 R2 L2 hS hR hL2
  have p2 : ∀ S2, (∀ j, j < 4 → S2 j = S1 j) → X 49 [some (.ref 0), some (.ref 12)] [] (stX 0 (u1 0) (u1 1) (u1 6) S2 (armU u1) n (u 7) R (u 8) L (talU u) ++ stA 12 u1 n1 S1 R1 L1) (0, 0) := by
    intro S2 hS
    refine go hX (fun pc => if pc = 60 then some 2 else none) 20 ?_
    refine Tr.at [3, 4, 5, 6, 7, 8, 15, 16, 17, 18, 19, 20] (c_rcopy (R := R) (R1 := R1) (fun R2 hR2 => ?_)) rfl rfl rfl
    exact p3 S2 R2 hS hR2
  have p1 : ∀ S2, (∀ j, j < 4 → S2 j = S1 j) → X 38 [some (.ref 0), some (.ref 12)] [] (stX 0 (u1 0) (u1 1) (u1 6) S2 (armU u) n (u 7) R (u 8) L (talU u) ++ stA 12 u1 n1 S1 R1 L1) (0, 0) := by
    intro S2 hS
    refine go hX (fun pc => if pc = 49 then some 2 else none) 20 ?_
    refine Tr.at [2, 14] (c_acopy h19 ?_) rfl rfl rfl
    exact p2 S2 hS
  refine go hX (fun pc => if pc = 38 then some 2 else none) 40 ?_
  refine ⟨⟨by decide, by decide, by decide, by decide, by decide⟩, ?_⟩
  exact p1 _ (fun j hj => cpy0 (f := S1) (g := S) (n := 4) rfl hj)
def putU (u : Nat → Int32) (t c : Int32) : Nat → Int32 := fun k => if k = 0 then t else if k = 1 then c else if k = 20 then 1 else if 6 ≤ k then 0 else u k
def putS (s : Sg) (t c : Int32) : Sg := (putU s.1 t c, [], [])
set_option maxRecDepth 20000 in
theorem c_putIn {u : Nat → Int32} {n t c : Int32} (hQ : Q (.inl none) (stA 0 (putU u t c) 0 S R L)) : Tr tX6_putIn 0 0 [.ref 0, .int t, .int c] (stA 0 u n S R L) Q := by
  refine Tr.of sX6_putIn (by decide +kernel) (Nat.le_of_ble_eq_true rfl) fun X hX => ?_
  have p3 : X 36 [some (.ref 0), some (.int t), some (.int c)] [] (stX 0 t c 0 S (armO 0 0 0 0 1) 0 0 R 0 L (talU u)) (0, 0) := by
    refine go hX (fun _ => none) 20 ?_
    refine Tr.at [11] (c_treset ?_) rfl rfl rfl
    exact hQ
  have p2 : X 29 [some (.ref 0), some (.int t), some (.int c)] [] (stX 0 t c 0 S (armO 0 0 0 0 1) 0 0 R (u 8) L (talU u)) (0, 0) := by
    refine go hX (fun pc => if pc = 36 then some 3 else none) 20 ?_
    refine Tr.at [9, 10] (c_lreset (L := L) ?_) rfl rfl rfl
    exact p3
  have p1 : X 22 [some (.ref 0), some (.int t), some (.int c)] [] (stX 0 t c 0 S (armO 0 0 0 0 1) n (u 7) R (u 8) L (talU u)) (0, 0) := by
    refine go hX (fun pc => if pc = 29 then some 3 else none) 20 ?_
    refine Tr.at [3, 4, 5, 6, 7, 8] (c_rreset (R := R) ?_) rfl rfl rfl
    exact p2
  have p0 : X 15 [some (.ref 0), some (.int t), some (.int c)] [] (stX 0 t c 0 S (armU u) n (u 7) R (u 8) L (talU u)) (0, 0) := by
    refine go hX (fun pc => if pc = 22 then some 3 else none) 20 ?_
    refine Tr.at [2] (c_areset ?_) rfl rfl rfl
    exact p1
  refine go hX (fun pc => if pc = 15 then some 3 else none) 20 ?_
  exact p0
def initU : Nat → Int32 := fun k => if k = 0 then 12 else if k = 1 then 6 else if k = 3 then 3 else if k = 4 then 30 else if k = 20 then 1 else 0
def initS : Sg := (initU, [], [])
set_option maxRecDepth 20000 in
theorem c_sinit (hQ : ∀ S1 : Nat → Int32, (∀ j, j < 4 → S1 j = initU (2 + j)) → Q (.inl none) (stA 0 initU 0 S1 (fun _ _ => 0) (fun _ => 0))) : Tr tX6_init 11 135 [.ref 0] [.inr (5, [.int 0, .int 0, .int 0, .null, .null, .null, .null, .null])] Q := by
  refine Tr.of sX6_init (by decide +kernel) (Nat.le_of_ble_eq_true rfl) fun X hX => ?_
  have p4 : ∀ S1 : Nat → Int32, (∀ j, j < 4 → S1 j = initU (2 + j)) → X 73 [some (.ref 0)] [] [.inr (5, [.int 12, .int 6, .int 0, .ref 1, .ref 2, .ref 3, .ref 9, .null]), .inl (0, 4, .inl S1), armO 0 0 0 0 1, .inr (4, [.int 0, .int 0, .ref 4, .ref 5, .ref 6, .ref 7, .ref 8]), .inl (0, 12, .inl (fun _ => 0)), .inl (0, 12, .inl (fun _ => 0)), .inl (0, 12, .inl (fun _ => 0)), .inl (0, 12, .inl (fun _ => 0)), .inl (0, 12, .inl (fun _ => 0)), .inr (3, [.int 0, .ref 10]), .inl (0, 50, .inl (fun _ => 0))] (1, 7) := by
    intro S1 hS
    refine go hX (fun _ => none) 20 ?_
    refine Tr.at [11] (c_tinit ?_) rfl rfl rfl
    exact ⟨trivial, hQ S1 hS⟩
  have p3 : ∀ S1 : Nat → Int32, (∀ j, j < 4 → S1 j = initU (2 + j)) → X 62 [some (.ref 0)] [] [.inr (5, [.int 12, .int 6, .int 0, .ref 1, .ref 2, .ref 3, .null, .null]), .inl (0, 4, .inl S1), armO 0 0 0 0 1, .inr (4, [.int 0, .int 0, .ref 4, .ref 5, .ref 6, .ref 7, .ref 8]), .inl (0, 12, .inl (fun _ => 0)), .inl (0, 12, .inl (fun _ => 0)), .inl (0, 12, .inl (fun _ => 0)), .inl (0, 12, .inl (fun _ => 0)), .inl (0, 12, .inl (fun _ => 0))] (3, 59) := by
    intro S1 hS
    refine go hX (fun pc => if pc = 73 then some 1 else none) 20 ?_
    refine Tr.at [9] (c_linit (k := .null) ?_) rfl rfl rfl
    exact ⟨trivial, p4 S1 hS⟩
  have p2 : ∀ S1 : Nat → Int32, (∀ j, j < 4 → S1 j = initU (2 + j)) → X 51 [some (.ref 0)] [] [.inr (5, [.int 12, .int 6, .int 0, .ref 1, .ref 2, .null, .null, .null]), .inl (0, 4, .inl S1), armO 0 0 0 0 1] (9, 126) := by
    intro S1 hS
    refine go hX (fun pc => if pc = 62 then some 1 else none) 20 ?_
    refine Tr.at [3] (c_rinit (a1 := .null) (a2 := .null) (a3 := .null) (a4 := .null) (a5 := .null) ?_) rfl rfl rfl
    exact ⟨trivial, p3 S1 hS⟩
  have p1 : ∀ S1 : Nat → Int32, (∀ j, j < 4 → S1 j = initU (2 + j)) → X 40 [some (.ref 0)] [] [.inr (5, [.int 12, .int 6, .int 0, .ref 1, .null, .null, .null, .null]), .inl (0, 4, .inl S1)] (10, 131) := by
    intro S1 hS
    refine go hX (fun pc => if pc = 51 then some 1 else none) 20 ?_
    refine Tr.at [2] (c_ainit ?_) rfl rfl rfl
    exact ⟨trivial, p2 S1 hS⟩
  refine go hX (fun pc => if pc = 40 then some 1 else none) 40 ?_
  refine ⟨rfl, in_lit (by decide), in_lit (by decide), in_lit (by decide), in_lit (by decide), trivial, ?_⟩
  refine p1 (upd (upd (upd (upd (fun _ => 0) 0 0) 1 3) 2 30) 3 0) (fun j hj => ?_)
  match j, hj with
  | 0, _ => rfl
  | 1, _ => rfl
  | 2, _ => rfl
  | 3, _ => rfl

