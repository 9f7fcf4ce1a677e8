/-! ===== a part of a bigger world, laid back by a plan ===== -/
variable {mc ms : Nat}
def posN : List Nat → Nat → Nat → Option Nat
  | [], _, _ => none
  | k :: ks, i, j => match Nat.beq k i with
    | true => some j
    | false => posN ks i (j + 1)
theorem posN_some : ∀ (ks : List Nat) (i j0 j : Nat), posN ks i j0 = some j → ∃ m, j = j0 + m ∧ ks[m]? = some i
  | [], _, _, _, h => nomatch h
  | k :: ks, i, j0, j, h => by
    unfold posN at h
    split at h
    · rename_i hb
      cases h
      exact ⟨0, rfl, by rw [Nat.eq_of_beq_eq_true hb]; rfl⟩
    · obtain ⟨m, h1, h2⟩ := posN_some ks i (j0 + 1) j h
      exact ⟨m + 1, by omega, h2⟩
theorem posN_none : ∀ (ks : List Nat) (i j0 : Nat), posN ks i j0 = none → i ∉ ks
  | [], _, _, _ => fun h => nomatch h
  | k :: ks, i, j0, h => by
    unfold posN at h
    split at h
    · cases h
    · rename_i hb
      intro hm
      rcases List.mem_cons.mp hm with q | q
      · rw [q, Nat.beq_refl] at hb; cases hb
      · exact posN_none ks i (j0 + 1) h q
def planOK (emb : List Nat) (pl : List (Option Nat)) : Bool := emb.all (fun k => Nat.ble (k + 1) pl.length) && (List.range pl.length).all (fun i => pl[i]? == some (posN emb i 0))
def cellL (f : Nat → Nat) (M1 : AM) (p : Option Nat) (o : AO) : AO := match p with
  | none => o
  | some j => match M1[j]? with
    | some o1 => upo f o1
    | none => o
def mrgL (f : Nat → Nat) (M1 : AM) : List (Option Nat) → AM → AM
  | [], Mb => Mb
  | _ :: _, [] => []
  | p :: pl, o :: Mb => cellL f M1 p o :: mrgL f M1 pl Mb
theorem mrgL_get {f : Nat → Nat} {M1 : AM} : ∀ (pl : List (Option Nat)) (Mb : AM) (i : Nat), (mrgL f M1 pl Mb)[i]? = (Mb[i]?).map (cellL f M1 (pl.getD i none))
  | [], Mb, i => by
    show Mb[i]? = (Mb[i]?).map (fun o => o)
    rw [Option.map_id']
  | _ :: _, [], i => by
    show ([] : AM)[i]? = _
    simp
  | p :: pl, o :: Mb, 0 => rfl
  | p :: pl, o :: Mb, i + 1 => by
    show (mrgL f M1 pl Mb)[i]? = (Mb[i]?).map (cellL f M1 (pl.getD i none))
    exact mrgL_get pl Mb i
def mrgB (emb : List Nat) (pl : List (Option Nat)) (Mb M1 : AM) : AM := match Nat.beq M1.length emb.length with
  | true => mrgL (embF emb Mb.length) M1 pl Mb
  | false => mrg emb Mb M1
theorem mrgB_eq {emb : List Nat} {pl : List (Option Nat)} {Mb M1 : AM} (hp : planOK emb pl = true) (hn : va_nd emb = true) : mrg emb Mb M1 = mrgB emb pl Mb M1 := by
  unfold mrgB
  split
  · rename_i hb
    have hl := Nat.eq_of_beq_eq_true hb
    obtain ⟨p1, p2⟩ := (Bool.and_eq_true _ _).mp hp
    have hnd := va_nd_inj emb hn
    unfold mrg
    rw [List.drop_eq_nil_of_le (by omega), List.map_nil, List.append_nil]
    apply List.ext_getElem?
    intro i
    rw [mrgL_get]
    have hlt : ∀ k ∈ emb, k < pl.length := fun k hk => Nat.le_of_ble_eq_true (List.all_eq_true.mp p1 k hk)
    by_cases hi : i < pl.length
    · have hpi : pl[i]? = some (posN emb i 0) := by
        have := List.all_eq_true.mp p2 i (List.mem_range.mpr hi)
        exact eq_of_beq this
      rw [List.getD_eq_getElem?_getD, hpi]
      show _ = (Mb[i]?).map (cellL (embF emb Mb.length) M1 (posN emb i 0))
      cases hpos : posN emb i 0 with
      | none =>
        rw [setAll_ne _ _ _ (posN_none emb i 0 hpos)]
        show Mb[i]? = (Mb[i]?).map (fun o => o)
        rw [Option.map_id']
      | some j =>
        obtain ⟨m, h1, h2⟩ := posN_some emb i 0 j hpos
        rw [Nat.zero_add] at h1
        subst h1
        have hj : j < M1.length := by have := (List.getElem?_eq_some_iff.mp h2).1; omega
        have ho := List.getElem?_eq_getElem hj
        by_cases hib : i < Mb.length
        · rw [setAll_at _ _ _ j i _ hnd h2 ho hib, List.getElem?_eq_getElem hib]
          show _ = some (cellL _ M1 (some j) _)
          unfold cellL
          dsimp only
          rw [ho]
        · rw [List.getElem?_eq_none (by rw [setAll_len]; omega), List.getElem?_eq_none (by omega)]
          rfl
    · have hni : i ∉ emb := fun q => hi (hlt i q)
      rw [setAll_ne _ _ _ hni, List.getD_eq_getElem?_getD, List.getElem?_eq_none (l := pl) (by omega)]
      show Mb[i]? = (Mb[i]?).map (fun o => o)
      rw [Option.map_id']
  · rfl
theorem Tr.ap {d : TrD} {a a1 : List Value} {M Mb : AM} {Q1 : AQ} (emb : List Nat) (pl : List (Option Nat)) (h : Tr d mc ms a M (fun o M1 => Q1 (upr (embF emb Mb.length) o) (mrgB emb pl Mb M1))) (hp : planOK emb pl = true) (hn : va_nd emb = true) (hM : emb.map (fun k => Mb[k]?) = M.map (fun o => some (upo (embF emb Mb.length) o))) (ha : a1 = a.map (upv (embF emb Mb.length))) : Tr d mc ms a1 Mb Q1 :=
  Tr.lift emb h hn hM ha (fun _ _ _ q => by rw [mrgB_eq hp hn]; exact q)

/-- the state at 1, the trial at 13 -/
def eT : List Nat := [13, 14, 15, 16, 17, 18, 19, 20, 21, 22, 23, 24]
def pT : List (Option Nat) := [none, none, none, none, none, none, none, none, none, none, none, none, none, some 0, some 1, some 2, some 3, some 4, some 5, some 6, some 7, some 8, some 9, some 10, some 11]
def eS : List Nat := [1, 2, 3, 4, 5, 6, 7, 8, 9, 10, 11, 12]
def pS : List (Option Nat) := [none, some 0, some 1, some 2, some 3, some 4, some 5, some 6, some 7, some 8, some 9, some 10, some 11]
def eTS : List Nat := [13, 14, 15, 16, 17, 18, 19, 20, 21, 22, 23, 24, 1, 2, 3, 4, 5, 6, 7, 8, 9, 10, 11, 12]
def pTS : List (Option Nat) := [none, some 12, some 13, some 14, some 15, some 16, some 17, some 18, some 19, some 20, some 21, some 22, some 23, some 0, some 1, some 2, some 3, some 4, some 5, some 6, some 7, some 8, some 9, some 10, some 11]
def eST : List Nat := [1, 2, 3, 4, 5, 6, 7, 8, 9, 10, 11, 12, 13, 14, 15, 16, 17, 18, 19, 20, 21, 22, 23, 24]
def pST : List (Option Nat) := [none, some 0, some 1, some 2, some 3, some 4, some 5, some 6, some 7, some 8, some 9, some 10, some 11, some 12, some 13, some 14, some 15, some 16, some 17, some 18, some 19, some 20, some 21, some 22, some 23]
def eR : List Nat := [4, 5, 6, 7, 8, 9]
def pR : List (Option Nat) := [none, none, none, none, some 0, some 1, some 2, some 3, some 4, some 5]

