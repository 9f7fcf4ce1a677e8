/-! ===== the abstract worlds: cells with local ids ===== -/
abbrev XCn : Type := (Nat → Int32) ⊕ (Nat → Int64) ⊕ (Nat → UInt32) ⊕ (Nat → UInt64) ⊕ (Nat → Option Nat)
abbrev AO : Type := (Nat × vp_A) ⊕ (Nat × List Value)
abbrev AM : Type := List AO
abbrev AL : Type := List (Option Value)
abbrev AB : Type := Nat × Nat
abbrev AR : Type := Option Value ⊕ String
abbrev WK : Type := Nat → AL → List Value → AM → AB → Prop
abbrev AQ : Type := AR → AM → Prop
abbrev WOp : Type := WK → AQ → AL → List Value → AM → AB → Prop
/-- an abstract value as the machine has it: a local id by ad, a float stands for a thing from before the launch's call, by ex -/
def xv (ad ex : Nat → Nat) : Value → Value
  | .ref k => .ref (ad k)
  | .float u => .ref (ex u.toNat)
  | v => v
def xc (ad : Nat → Nat) : XCn → XCn
  | .inr (.inr (.inr (.inr f))) => .inr (.inr (.inr (.inr (fun j => (f j).map ad))))
  | c => c
def xo (cy ad ex : Nat → Nat) : AO → va_E
  | .inl (t, n, c) => .inl (cy t, n, xc ad c)
  | .inr (ci, fs) => .inr (ci, fs.map (xv ad ex))
def xw (cy ad ex : Nat → Nat) (M : AM) : va_W := M.mapIdx fun k o => (ad k, xo cy ad ex o)
theorem xw_get {cy ad ex : Nat → Nat} {M : AM} {k : Nat} : (xw cy ad ex M)[k]? = (M[k]?).map (fun o => (ad k, xo cy ad ex o)) := by
  unfold xw
  rw [List.getElem?_mapIdx]
theorem xw_at {cy ad ex : Nat → Nat} {M : AM} {k : Nat} {o : AO} (h : M[k]? = some o) : (xw cy ad ex M)[k]? = some (ad k, xo cy ad ex o) := by rw [xw_get, h]; rfl
theorem xw_set {cy ad ex : Nat → Nat} {M : AM} {k : Nat} (o : AO) : (xw cy ad ex M).set k (ad k, xo cy ad ex o) = xw cy ad ex (M.set k o) := by
  apply List.ext_getElem?
  intro i
  rw [xw_get, List.getElem?_set, List.getElem?_set, xw_get]
  have hl : (xw cy ad ex M).length = M.length := by unfold xw; rw [List.length_mapIdx]
  rw [hl]
  by_cases h : k = i
  · subst h
    rw [if_pos rfl, if_pos rfl]
    by_cases h2 : k < M.length
    · rw [if_pos h2, if_pos h2]; rfl
    · rw [if_neg h2, if_neg h2]; rfl
  · rw [if_neg h, if_neg h]
theorem xw_push {cy ad ex : Nat → Nat} {M : AM} (o : AO) : xw cy ad ex M ++ [(ad M.length, xo cy ad ex o)] = xw cy ad ex (M ++ [o]) := by
  unfold xw
  rw [List.mapIdx_append]
  simp
/-! closed: every id within -/
def vcl (n : Nat) : Value → Prop
  | .ref k => k < n
  | _ => True
def ccl (n : Nat) : XCn → Prop
  | .inr (.inr (.inr (.inr f))) => ∀ j k, f j = some k → k < n
  | _ => True
def ocl (n : Nat) : AO → Prop
  | .inl (_, _, c) => ccl n c
  | .inr (_, fs) => ∀ v ∈ fs, vcl n v
def mcl (M : AM) : Prop := ∀ o ∈ M, ocl M.length o
def scl (n : Nat) (st : List Value) : Prop := ∀ v ∈ st, vcl n v
def lcl (n : Nat) (L : AL) : Prop := ∀ (i : Nat) (v : Value), L[i]? = some (some v) → vcl n v
theorem vcl.mono {n m : Nat} (h : n ≤ m) {v : Value} (hv : vcl n v) : vcl m v := by cases v <;> first | exact Nat.lt_of_lt_of_le hv h | exact trivial
theorem ccl.mono {n m : Nat} (h : n ≤ m) {c : XCn} (hc : ccl n c) : ccl m c := by
  rcases c with c | c | c | c | c <;> first | exact (fun j k e => Nat.lt_of_lt_of_le (hc j k e) h) | exact trivial
theorem ocl.mono {n m : Nat} (h : n ≤ m) {o : AO} (ho : ocl n o) : ocl m o := by
  rcases o with ⟨t, z, c⟩ | ⟨ci, fs⟩
  · exact ccl.mono h ho
  · exact fun v hv => (ho v hv).mono h
theorem scl.mono {n m : Nat} (h : n ≤ m) {st : List Value} (hs : scl n st) : scl m st := fun v hv => (hs v hv).mono h
theorem lcl.mono {n m : Nat} (h : n ≤ m) {L : AL} (hs : lcl n L) : lcl m L := fun i v hv => (hs i v hv).mono h
theorem mcl.at {M : AM} (h : mcl M) {k : Nat} {o : AO} (ho : M[k]? = some o) : ocl M.length o := h o (List.mem_of_getElem? ho)
theorem mcl.set {M : AM} (h : mcl M) {k : Nat} {o : AO} (ho : ocl M.length o) : mcl (M.set k o) := by
  intro x hx
  rw [List.length_set]
  rcases List.mem_or_eq_of_mem_set hx with h1 | h1
  · exact h x h1
  · rw [h1]; exact ho
theorem mcl.push {M : AM} (h : mcl M) {o : AO} (ho : ocl (M.length + 1) o) : mcl (M ++ [o]) := by
  intro x hx
  rw [List.length_append]
  rcases List.mem_append.mp hx with h1 | h1
  · exact (h x h1).mono (Nat.le_add_right _ _)
  · rw [List.mem_singleton.mp h1]; exact ho
theorem scl.cons {n : Nat} {v : Value} {st : List Value} (hv : vcl n v) (h : scl n st) : scl n (v :: st) := fun w hw => (List.mem_cons.mp hw).elim (fun e => e ▸ hv) (h w)
theorem scl.hd {n : Nat} {v : Value} {st : List Value} (h : scl n (v :: st)) : vcl n v := h v List.mem_cons_self
theorem scl.tl {n : Nat} {v : Value} {st : List Value} (h : scl n (v :: st)) : scl n st := fun w hw => h w (List.mem_cons_of_mem _ hw)
/-! another ad that agrees -/
def Agr (n : Nat) (ad ad' : Nat → Nat) : Prop := ∀ k, k < n → ad' k = ad k
theorem Agr.rf {n : Nat} {ad : Nat → Nat} : Agr n ad ad := fun _ _ => rfl
theorem Agr.tr {n m : Nat} {a b c : Nat → Nat} (h1 : Agr n a b) (h2 : Agr m b c) (hm : n ≤ m) : Agr n a c := fun k hk => (h2 k (Nat.lt_of_lt_of_le hk hm)).trans (h1 k hk)
theorem Agr.mono {n m : Nat} {a b : Nat → Nat} (h : Agr m a b) (hm : n ≤ m) : Agr n a b := fun k hk => h k (Nat.lt_of_lt_of_le hk hm)
theorem xv_agr {n : Nat} {ad ad' ex : Nat → Nat} (h : Agr n ad ad') {v : Value} (hv : vcl n v) : xv ad' ex v = xv ad ex v := by
  cases v <;> first | rfl | (show Value.ref _ = Value.ref _; rw [h _ hv])
theorem xc_agr {n : Nat} {ad ad' : Nat → Nat} (h : Agr n ad ad') {c : XCn} (hc : ccl n c) : xc ad' c = xc ad c := by
  rcases c with c | c | c | c | f
  · rfl
  · rfl
  · rfl
  · rfl
  · have e : (fun j => (f j).map ad') = (fun j => (f j).map ad) := by
      funext j
      cases hf : f j with
      | none => rfl
      | some k => show some (ad' k) = some (ad k); rw [h k (hc j k hf)]
    show (Sum.inr (Sum.inr (Sum.inr (Sum.inr (fun j => (f j).map ad')))) : XCn) = _
    rw [e]
    rfl
theorem xo_agr {n : Nat} {cy ad ad' ex : Nat → Nat} (h : Agr n ad ad') {o : AO} (ho : ocl n o) : xo cy ad' ex o = xo cy ad ex o := by
  rcases o with ⟨t, z, c⟩ | ⟨ci, fs⟩
  · show (Sum.inl (cy t, z, xc ad' c) : va_E) = Sum.inl (cy t, z, xc ad c)
    rw [xc_agr h ho]
  · show (Sum.inr (ci, fs.map (xv ad' ex)) : va_E) = Sum.inr (ci, fs.map (xv ad ex))
    have e : fs.map (xv ad' ex) = fs.map (xv ad ex) := List.map_congr_left fun v hv => xv_agr h (ho v hv)
    rw [e]
theorem xw_agr {cy ad ad' ex : Nat → Nat} {M : AM} (h : Agr M.length ad ad') (hM : mcl M) : xw cy ad' ex M = xw cy ad ex M := by
  apply List.ext_getElem?
  intro i
  rw [xw_get, xw_get]
  cases hi : M[i]? with
  | none => rfl
  | some o =>
    show some (ad' i, xo cy ad' ex o) = some (ad i, xo cy ad ex o)
    rw [h i (List.getElem?_eq_some_iff.mp hi).1, xo_agr h (hM.at hi)]
theorem st_agr {n : Nat} {ad ad' ex : Nat → Nat} (h : Agr n ad ad') {st : List Value} (hs : scl n st) : st.map (xv ad' ex) = st.map (xv ad ex) := List.map_congr_left fun v hv => xv_agr h (hs v hv)
/-! locals by place -/
def xl (ad ex : Nat → Nat) (L : AL) : List (Nat × Value) := (L.mapIdx fun i o => o.map (fun v => (i, xv ad ex v))).filterMap id
theorem xl_mem {ad ex : Nat → Nat} {L : AL} {q : Nat × Value} : q ∈ xl ad ex L ↔ ∃ v, L[q.1]? = some (some v) ∧ q.2 = xv ad ex v := by
  unfold xl
  rw [List.mem_filterMap]
  constructor
  · rintro ⟨o, ho, hq⟩
    obtain ⟨i, hi⟩ := List.getElem?_of_mem ho
    rw [List.getElem?_mapIdx] at hi
    cases hL : L[i]? with
    | none => rw [hL] at hi; cases hi
    | some w =>
      rw [hL] at hi
      have hi2 : w.map (fun v => (i, xv ad ex v)) = o := Option.some.inj hi
      have hq2 : o = some q := hq
      rw [hq2] at hi2
      cases w with
      | none => cases hi2
      | some v =>
        have e : (i, xv ad ex v) = q := Option.some.inj hi2
        rw [← e]
        exact ⟨v, hL, rfl⟩
  · rintro ⟨v, h1, h2⟩
    refine ⟨some q, ?_, rfl⟩
    refine List.mem_of_getElem? (i := q.1) ?_
    rw [List.getElem?_mapIdx, h1]
    show some (some (q.1, xv ad ex v)) = some (some q)
    rw [← h2]
theorem xl_at {ls : Array Slot} {nL : Nat} {ad ex : Nat → Nat} {L : AL} (h : lv_has ls nL (xl ad ex L)) {i : Nat} {v : Value} (hi : L[i]? = some (some v)) : ls[i]? = some (.val (xv ad ex v)) := h.2.2 (i, xv ad ex v) (xl_mem.mpr ⟨v, hi, rfl⟩)
theorem xl_sub {ls : Array Slot} {nL : Nat} {ad ex : Nat → Nat} {L L' : AL} (h : lv_has ls nL (xl ad ex L)) (hs : ∀ (i : Nat) (v : Value), L'[i]? = some (some v) → L[i]? = some (some v)) : lv_has ls nL (xl ad ex L') := ⟨h.1, h.2.1, fun q hq => by
  obtain ⟨v, h1, h2⟩ := xl_mem.mp hq
  exact h.2.2 q (xl_mem.mpr ⟨v, hs _ _ h1, h2⟩)⟩
theorem xl_agr {n : Nat} {ad ad' ex : Nat → Nat} (h : Agr n ad ad') {L : AL} (hL : lcl n L) {ls : Array Slot} {nL : Nat} (hl : lv_has ls nL (xl ad ex L)) : lv_has ls nL (xl ad' ex L) := ⟨hl.1, hl.2.1, fun q hq => by
  obtain ⟨v, h1, h2⟩ := xl_mem.mp hq
  exact hl.2.2 q (xl_mem.mpr ⟨v, h1, by rw [h2, xv_agr h (hL _ _ h1)]⟩)⟩
/-- store a value of one slot -/
def stk (L : AL) (i : Nat) : AL := match i with
  | 0 => L
  | j + 1 => match L[j]? with
    | some (some (.long _)) => L.set j none
    | some (some (.double _)) => L.set j none
    | _ => L
def st1 (L : AL) (i : Nat) (v : Value) : AL := (stk L i).set i (some v)
def st2 (L : AL) (i : Nat) (v : Value) : AL := ((stk L i).set (i + 1) none).set i (some v)
theorem stk_len (L : AL) (i : Nat) : (stk L i).length = L.length := by
  unfold stk
  split
  · rfl
  · split <;> simp
theorem stk_sub {L : AL} {i : Nat} {j : Nat} {v : Value} (h : (stk L i)[j]? = some (some v)) : L[j]? = some (some v) ∧ ¬ (j + 1 = i ∧ v.category = 2) := by
  unfold stk at h
  split at h
  · exact ⟨h, fun z => absurd z.1 (Nat.succ_ne_zero j)⟩
  · rename_i k
    have key : ∀ w : Value, L[k]? = some (some w) → (L.set k none)[j]? = some (some v) → L[j]? = some (some v) ∧ ¬ (j + 1 = k + 1 ∧ v.category = 2) := by
      intro w hw h
      rw [List.getElem?_set] at h
      by_cases hk : k = j
      · subst hk
        rw [if_pos rfl] at h
        split at h <;> cases h
      · rw [if_neg hk] at h
        exact ⟨h, fun z => hk (Nat.succ.inj z.1).symm⟩
    split at h
    · rename_i x hw
      exact key _ hw h
    · rename_i x hw
      exact key _ hw h
    · rename_i h1 h2
      refine ⟨h, fun z => ?_⟩
      have e : j = k := Nat.succ.inj z.1
      subst e
      cases v with
      | long x => exact h1 x h
      | double x => exact h2 x h
      | _ => cases z.2
theorem xv_cat {ad ex : Nat → Nat} (v : Value) : (xv ad ex v).category = v.category := by cases v <;> rfl
theorem xl_st1 {ls : Array Slot} {nL : Nat} {ad ex : Nat → Nat} {L : AL} {i : Nat} {v : Value} (hn : (stk L i).length ≤ nL ∨ True) (hl : lv_has ls nL ((i, xv ad ex v) :: (xl ad ex L).filter (fun q => !(q.1 == i) && !(q.1 + 1 == i && q.2.category == 2)))) : lv_has ls nL (xl ad ex (st1 L i v)) := ⟨hl.1, hl.2.1, fun q hq => by
  obtain ⟨w, h1, h2⟩ := xl_mem.mp hq
  refine hl.2.2 q ?_
  unfold st1 at h1
  rw [List.getElem?_set] at h1
  by_cases hi : i = q.1
  · rw [if_pos hi] at h1
    split at h1
    · have e : v = w := by cases h1; rfl
      obtain ⟨q1, q2⟩ := q
      dsimp only at hi h2
      subst hi; subst e; subst h2
      exact List.mem_cons_self
    · cases h1
  · rw [if_neg hi] at h1
    obtain ⟨h3, h4⟩ := stk_sub h1
    refine List.mem_cons_of_mem _ (List.mem_filter.mpr ⟨xl_mem.mpr ⟨w, h3, h2⟩, ?_⟩)
    have c : q.2.category = w.category := by rw [h2, xv_cat]
    simp only [Bool.and_eq_true, Bool.not_eq_true', beq_eq_false_iff_ne, Bool.and_eq_false_iff, ne_eq]
    refine ⟨fun z => hi z.symm, ?_⟩
    rw [c]
    by_cases z : q.1 + 1 = i
    · exact Or.inr fun z2 => h4 ⟨z, z2⟩
    · exact Or.inl z⟩
theorem xl_st2 {ls : Array Slot} {nL : Nat} {ad ex : Nat → Nat} {L : AL} {i : Nat} {v : Value} (hl : lv_has ls nL ((i, xv ad ex v) :: (xl ad ex L).filter (fun q => !(q.1 == i) && (!(q.1 == i + 1) && !(q.1 + 1 == i && q.2.category == 2))))) : lv_has ls nL (xl ad ex (st2 L i v)) := ⟨hl.1, hl.2.1, fun q hq => by
  obtain ⟨w, h1, h2⟩ := xl_mem.mp hq
  refine hl.2.2 q ?_
  unfold st2 at h1
  rw [List.getElem?_set] at h1
  by_cases hi : i = q.1
  · rw [if_pos hi] at h1
    split at h1
    · have e : v = w := by cases h1; rfl
      obtain ⟨q1, q2⟩ := q
      dsimp only at hi h2
      subst hi; subst e; subst h2
      exact List.mem_cons_self
    · cases h1
  · rw [if_neg hi, List.getElem?_set] at h1
    by_cases hi2 : i + 1 = q.1
    · rw [if_pos hi2] at h1
      split at h1 <;> cases h1
    · rw [if_neg hi2] at h1
      obtain ⟨h3, h4⟩ := stk_sub h1
      refine List.mem_cons_of_mem _ (List.mem_filter.mpr ⟨xl_mem.mpr ⟨w, h3, h2⟩, ?_⟩)
      have c : q.2.category = w.category := by rw [h2, xv_cat]
      simp only [Bool.and_eq_true, Bool.not_eq_true', beq_eq_false_iff_ne, Bool.and_eq_false_iff, ne_eq]
      refine ⟨fun z => hi z.symm, fun z => hi2 z.symm, ?_⟩
      rw [c]
      by_cases z : q.1 + 1 = i
      · exact Or.inr fun z2 => h4 ⟨z, z2⟩
      · exact Or.inl z⟩
theorem lcl_st1 {n : Nat} {L : AL} {i : Nat} {v : Value} (h : lcl n L) (hv : vcl n v) : lcl n (st1 L i v) := by
  intro j w hj
  unfold st1 at hj
  rw [List.getElem?_set] at hj
  by_cases hi : i = j
  · rw [if_pos hi] at hj
    split at hj
    · cases hj; exact hv
    · cases hj
  · rw [if_neg hi] at hj
    exact h j w (stk_sub hj).1
theorem lcl_st2 {n : Nat} {L : AL} {i : Nat} {v : Value} (h : lcl n L) (hv : vcl n v) : lcl n (st2 L i v) := by
  intro j w hj
  unfold st2 at hj
  rw [List.getElem?_set] at hj
  by_cases hi : i = j
  · rw [if_pos hi] at hj
    split at hj
    · cases hj; exact hv
    · cases hj
  · rw [if_neg hi, List.getElem?_set] at hj
    by_cases hi2 : i + 1 = j
    · rw [if_pos hi2] at hj
      split at hj <;> cases hj
    · rw [if_neg hi2] at hj
      exact h j w (stk_sub hj).1
