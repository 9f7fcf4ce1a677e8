/-! ===== fields and arrays ===== -/
def ClOk (ci : Nat) (C : String) (T : u_T) (N : Nat) (ty : Nat → FieldType) : Prop := vwCl[ci]? = some (C, T, N) ∧ (∀ w ∈ u_ws C T N, w ∈ WG) ∧ (∀ k, k < N → parseFieldDescriptor (T k).2.2.1 = some (ty k)) ∧ (∀ a, a < N → ∀ b, b < N → a ≠ b → (T a).2.1 ≠ (T b).2.1)
def o_getf (n ci k : Nat) : WOp := fun K Q L st M b => match st with
  | .ref i :: st1 => match M[i]? with
    | some (.inr (ci', fs)) => match Nat.beq ci' ci with
      | true => match fs[k]? with
        | some v => K n L (v :: st1) M b
        | none => False
      | false => False
    | _ => False
  | _ => False
theorem s_getf {d : TrD} {G : GX} {pc ix ci k : Nat} {C : String} {T : u_T} {N : Nat} {ty : Nat → FieldType} (ok : ClOk ci C T N ty) (hk : k < N) (hd : decode d.2.1 pc = .ok (.getfield ix, 3)) (hw : Cond.fieldLink d.1.cls ix (T k).1 (T k).2.1 (T k).2.2.1 ∈ WG) : Snd d G pc (o_getf (pc + 3) ci k) := by
  intro p l e R s m args below meth c Z D cy ex A n0 ad0 Q C' g K hK L st M b h ad H locs ls h1 h2 h3 h4 h5 h6 h7 hP hD hS hl
  unfold o_getf at h
  split at h
  · rename_i i st1
    split at h
    · rename_i ci' fs hM
      split at h
      · rename_i hb
        cases Nat.eq_of_beq_eq_true hb
        split at h
        · rename_i v hv
          have hq := xw_at (cy := cy) (ad := ad) (ex := ex) hM
          refine va_get (D := D) (ci := ci) (v := xv ad ex v) C'.1 C'.2.1 C'.2.2.2.2.1 ok.2.1 C'.2.2.2.1 C'.2.2.2.2.2.1 hP i (fs := fs.map (xv ad ex)) hq ok.1 k hk (C'.2.2.2.2.1 _ hw) (fun _ q => q) (by rw [List.getElem?_map, hv]; rfl) hd ?_
          exact hK _ _ _ _ _ h ad H locs ls h1 h2 h3 (scl.cons ((h3.at hM) v (List.mem_of_getElem? hv)) h4.tl) h5 h6 h7 hP hD hS hl
        · exact h.elim
      · exact h.elim
    · exact h.elim
  · exact h.elim
/-- what goes on behind a change of one cell -/
theorem XX_set {p : Program} {l : Launch} {e : Env} {R : Room} {s : State} {m : MethodId} {args : Array Value} {below : List Frame} {meth : Method} {c : Code} {Z : State → Prop} {D : va_G} {cy ex : Nat → Nat} {A : Nat → Prop} {n0 : Nat} {ad0 : Nat → Nat} {nL pc : Nat} {L : AL} {st : List Value} {M : AM} {b : AB} {i : Nat} {o : AO} {ad : Nat → Nat} {H1 : Heap} {locs1 : List Loc} {ls : Array Slot}
    (h : XX p l e R s m args below meth c Z D cy ex A n0 ad0 nL pc L st (M.set i o) b) (h1 : Agr n0 ad0 ad) (h2 : n0 ≤ M.length) (h3 : mcl M) (ho : ocl M.length o) (h4 : scl M.length st) (h5 : lcl M.length L) (h6 : b.1 ≤ R.cells) (h7 : b.2 ≤ R.slots)
    (hP : va_P D vwCl ((xw cy ad ex M).set i (ad i, xo cy ad ex o)) H1) (hD : va_D A ((xw cy ad ex M).set i (ad i, xo cy ad ex o))) (hS : va_S A s.heap H1 locs1) (hl : lv_has ls nL (xl ad ex L)) : W p l e R s m args below meth c H1 locs1 (R.cells - b.1) (R.slots - b.2) Z (F0 m pc ls (st.map (xv ad ex))) := by
  have e : (M.set i o).length = M.length := List.length_set
  exact h ad H1 locs1 ls h1 (by rw [e]; exact h2) (h3.set ho) (by rw [e]; exact h4) (by rw [e]; exact h5) h6 h7 (by rw [← xw_set]; exact hP) (by rw [← xw_set]; exact hD) hS hl
/-- v fits a field of the type ty -/
def fitV (ty : FieldType) (v : Value) : Prop := match ty, v with
  | .int, .int _ => True
  | .boolean, .int x => x = 0 ∨ x = 1
  | .long, .long _ => True
  | .object _, .ref _ => True
  | .object _, .float _ => True
  | .array _, .ref _ => True
  | _, _ => False
theorem fitV_ok {ty : FieldType} {v : Value} {ad ex : Nat → Nat} (h : fitV ty v) : narrow ty (xv ad ex v) = xv ad ex v ∧ fits ty (xv ad ex v) = true := by
  cases ty <;> cases v <;> first | exact h.elim | exact ⟨rfl, rfl⟩ | (rcases h with h | h <;> subst h <;> exact ⟨rfl, rfl⟩)
def o_putf (n ci k : Nat) (ty : FieldType) : WOp := fun K Q L st M b => match st with
  | v :: .ref i :: st1 => match M[i]? with
    | some (.inr (ci', fs)) => match Nat.beq ci' ci with
      | true => match Nat.ble (k + 1) fs.length with
        | true => fitV ty v ∧ K n L st1 (M.set i (.inr (ci, fs.set k v))) b
        | false => False
      | false => False
    | _ => False
  | _ => False
/-- a put of a value that always fits -/
def o_puti (n ci k : Nat) : WOp := fun K Q L st M b => match st with
  | .int x :: .ref i :: st1 => match M[i]? with
    | some (.inr (ci', fs)) => match Nat.beq ci' ci with
      | true => match Nat.ble (k + 1) fs.length with
        | true => K n L st1 (M.set i (.inr (ci, fs.set k (.int x)))) b
        | false => False
      | false => False
    | _ => False
  | _ => False
theorem s_putf {d : TrD} {G : GX} {pc ix ci k : Nat} {C : String} {T : u_T} {N : Nat} {ty : Nat → FieldType} {ty1 : FieldType} (ok : ClOk ci C T N ty) (hk : k < N) (hty : ty k = ty1) (hfin : (T k).2.2.2 = false ∨ ((T k).2.2.2 = true ∧ d.1.name = "<init>" ∧ (T k).1 = d.1.cls)) (hd : decode d.2.1 pc = .ok (.putfield ix, 3)) (hw : Cond.fieldLink d.1.cls ix (T k).1 (T k).2.1 (T k).2.2.1 ∈ WG) : Snd d G pc (o_putf (pc + 3) ci k ty1) := by
  intro p l e R s m args below meth c Z D cy ex A n0 ad0 Q C' g K hK L st M b h ad H locs ls h1 h2 h3 h4 h5 h6 h7 hP hD hS hl
  unfold o_putf at h
  split at h
  · rename_i v i st1
    split at h
    · rename_i ci' fs hM
      split at h
      · rename_i hb
        cases Nat.eq_of_beq_eq_true hb
        split at h
        · rename_i hlen
          have hlen2 : k < fs.length := Nat.le_of_ble_eq_true hlen
          have hq := xw_at (cy := cy) (ad := ad) (ex := ex) hM
          have hpd : parseFieldDescriptor (T k).2.2.1 = some ty1 := by rw [ok.2.2.1 k hk, hty]
          obtain ⟨hn, hf⟩ := fitV_ok (ad := ad) (ex := ex) h.1
          have ho : ocl M.length (.inr (ci, fs.set k v)) := fun w hw => by
            rcases List.mem_or_eq_of_mem_set hw with q | q
            · exact (h3.at hM) w q
            · rw [q]; exact h4.hd
          have eq : (Sum.inr (ci, (fs.map (xv ad ex)).set k (xv ad ex v)) : va_E) = xo cy ad ex (.inr (ci, fs.set k v)) := by
            show _ = (Sum.inr (ci, (fs.set k v).map (xv ad ex)) : va_E)
            rw [List.map_set]
          have key : ∀ (H1 : Heap) (locs1 : List Loc), va_P D vwCl ((xw cy ad ex M).set i (ad i, .inr (ci, (fs.map (xv ad ex)).set k (xv ad ex v)))) H1 → va_D A ((xw cy ad ex M).set i (ad i, .inr (ci, (fs.map (xv ad ex)).set k (xv ad ex v)))) → va_S A s.heap H1 locs1 → W p l e R s m args below meth c H1 locs1 (R.cells - b.1) (R.slots - b.2) Z (F0 m (pc + 3) ls (st1.map (xv ad ex))) := by
            intro H1 locs1 hP1 hD1 hS1
            rw [eq] at hP1 hD1
            exact XX_set (hK _ _ _ _ _ h.2) h1 h2 h3 ho h4.tl.tl h5 h6 h7 hP1 hD1 hS1 hl
          rcases hfin with hfin | ⟨hfin, hin, hdecl⟩
          · exact va_put (D := D) (ci := ci) (v := xv ad ex v) (ty := ty1) C'.1 C'.2.1 C'.2.2.2.2.1 ok.2.1 ty ok.2.2.1 ok.2.2.2 C'.2.2.2.1 C'.2.2.2.2.2.1 hP hD hS i (fs := fs.map (xv ad ex)) hq ok.1 k hk (C'.2.2.2.2.1 _ hw) (fun _ q => q) hfin hpd hn hf (by rw [List.length_map]; exact hlen2) hd key
          · exact va_putF (D := D) (ci := ci) (v := xv ad ex v) (ty := ty1) C'.1 C'.2.1 C'.2.2.2.2.1 ok.2.1 ty ok.2.2.1 ok.2.2.2 C'.2.2.2.1 C'.2.2.2.2.2.1 hP hD hS i (fs := fs.map (xv ad ex)) hq ok.1 k hk (C'.2.2.2.2.1 _ hw) (fun _ q => q) hfin (C'.2.2.2.2.2.2.2.2.2.2.1 hin) hdecl hpd hn hf (by rw [List.length_map]; exact hlen2) hd key
        · exact h.elim
      · exact h.elim
    · exact h.elim
  · exact h.elim
theorem s_puti {d : TrD} {G : GX} {pc ix ci k : Nat} {C : String} {T : u_T} {N : Nat} {ty : Nat → FieldType} (ok : ClOk ci C T N ty) (hk : k < N) (hty : ty k = .int) (hfin : (T k).2.2.2 = false ∨ ((T k).2.2.2 = true ∧ d.1.name = "<init>" ∧ (T k).1 = d.1.cls)) (hd : decode d.2.1 pc = .ok (.putfield ix, 3)) (hw : Cond.fieldLink d.1.cls ix (T k).1 (T k).2.1 (T k).2.2.1 ∈ WG) : Snd d G pc (o_puti (pc + 3) ci k) := by
  intro p l e R s m args below meth c Z D cy ex A n0 ad0 Q C' g K hK L st M b h
  refine s_putf ok hk hty hfin hd hw p l e R s m args below meth c Z D cy ex A n0 ad0 Q C' g K hK L st M b ?_
  unfold o_puti at h
  unfold o_putf
  split at h
  · rename_i x i st1
    dsimp only
    split at h
    · rename_i ci' fs hM
      split at h
      · rename_i hb
        split at h
        · rename_i hlen
          exact ⟨trivial, h⟩
        · exact h.elim
      · exact h.elim
    · exact h.elim
  · exact h.elim
/-! arrays -/
def o_iald (n : Nat) : WOp := fun K Q L st M b => match st with
  | .int j :: .ref i :: st1 => match M[i]? with
    | some (.inl (0, z, .inl f)) => vp_in j z ∧ K n L (.int (f j.toNatClampNeg) :: st1) M b
    | _ => False
  | _ => False
theorem s_iald {d : TrD} {G : GX} {pc : Nat} (hd : decode d.2.1 pc = .ok (.iaload, 1)) : Snd d G pc (o_iald (pc + 1)) := by
  intro p l e R s m args below meth c Z D cy ex A n0 ad0 Q C' g K hK L st M b h ad H locs ls h1 h2 h3 h4 h5 h6 h7 hP hD hS hl
  unfold o_iald at h
  split at h
  · rename_i j i st1
    split at h
    · rename_i z f hM
      have hq := xw_at (cy := cy) (ad := ad) (ex := ex) hM
      refine va_iald (D := D) C'.1 C'.2.1 C'.2.2.2.2.2.1 hP i 0 hq rfl h.1 hd ?_
      exact hK _ _ _ _ _ h.2 ad H locs ls h1 h2 h3 (scl.cons trivial h4.tl.tl) h5 h6 h7 hP hD hS hl
    · exact h.elim
  · exact h.elim
def o_iast (n : Nat) : WOp := fun K Q L st M b => match st with
  | .int x :: .int j :: .ref i :: st1 => match M[i]? with
    | some (.inl (0, z, .inl f)) => vp_in j z ∧ K n L st1 (M.set i (.inl (0, z, .inl (upd f j.toNatClampNeg x)))) b
    | _ => False
  | _ => False
theorem s_iast {d : TrD} {G : GX} {pc : Nat} (hd : decode d.2.1 pc = .ok (.iastore, 1)) : Snd d G pc (o_iast (pc + 1)) := by
  intro p l e R s m args below meth c Z D cy ex A n0 ad0 Q C' g K hK L st M b h ad H locs ls h1 h2 h3 h4 h5 h6 h7 hP hD hS hl
  unfold o_iast at h
  split at h
  · rename_i x j i st1
    split at h
    · rename_i z f hM
      have hq := xw_at (cy := cy) (ad := ad) (ex := ex) hM
      refine va_iast (D := D) C'.1 C'.2.1 C'.2.2.2.2.2.1 hP hD hS i 0 hq rfl h.1 hd (fun H1 locs1 hP1 hD1 hS1 => ?_)
      exact XX_set (o := .inl (0, z, .inl (upd f j.toNatClampNeg x))) (hK _ _ _ _ _ h.2) h1 h2 h3 trivial h4.tl.tl.tl h5 h6 h7 hP1 hD1 hS1 hl
    · exact h.elim
  · exact h.elim
def o_bald (n : Nat) : WOp := fun K Q L st M b => match st with
  | .int j :: .ref i :: st1 => match M[i]? with
    | some (.inl (1, z, .inl f)) => vp_in j z ∧ K n L (.int (f j.toNatClampNeg) :: st1) M b
    | _ => False
  | _ => False
theorem s_bald {d : TrD} {G : GX} {pc : Nat} (hd : decode d.2.1 pc = .ok (.baload, 1)) : Snd d G pc (o_bald (pc + 1)) := by
  intro p l e R s m args below meth c Z D cy ex A n0 ad0 Q C' g K hK L st M b h ad H locs ls h1 h2 h3 h4 h5 h6 h7 hP hD hS hl
  unfold o_bald at h
  split at h
  · rename_i j i st1
    split at h
    · rename_i z f hM
      have hq := xw_at (cy := cy) (ad := ad) (ex := ex) hM
      refine va_bald (D := D) C'.1 C'.2.1 C'.2.2.2.2.2.1 hP i 1 hq rfl h.1 hd ?_
      exact hK _ _ _ _ _ h.2 ad H locs ls h1 h2 h3 (scl.cons trivial h4.tl.tl) h5 h6 h7 hP hD hS hl
    · exact h.elim
  · exact h.elim
def o_bast (n : Nat) : WOp := fun K Q L st M b => match st with
  | .int x :: .int j :: .ref i :: st1 => match M[i]? with
    | some (.inl (1, z, .inl f)) => vp_in j z ∧ K n L st1 (M.set i (.inl (1, z, .inl (upd f j.toNatClampNeg (vp_nar .byte x))))) b
    | _ => False
  | _ => False
theorem s_bast {d : TrD} {G : GX} {pc : Nat} (hd : decode d.2.1 pc = .ok (.bastore, 1)) : Snd d G pc (o_bast (pc + 1)) := by
  intro p l e R s m args below meth c Z D cy ex A n0 ad0 Q C' g K hK L st M b h ad H locs ls h1 h2 h3 h4 h5 h6 h7 hP hD hS hl
  unfold o_bast at h
  split at h
  · rename_i x j i st1
    split at h
    · rename_i z f hM
      have hq := xw_at (cy := cy) (ad := ad) (ex := ex) hM
      refine va_bast (D := D) C'.1 C'.2.1 C'.2.2.2.2.2.1 hP hD hS i 1 hq rfl h.1 hd (fun H1 locs1 hP1 hD1 hS1 => ?_)
      exact XX_set (o := .inl (1, z, .inl (upd f j.toNatClampNeg (vp_nar .byte x)))) (hK _ _ _ _ _ h.2) h1 h2 h3 trivial h4.tl.tl.tl h5 h6 h7 hP1 hD1 hS1 hl
    · exact h.elim
  · exact h.elim
def o_aald (n t : Nat) : WOp := fun K Q L st M b => match st with
  | .int j :: .ref i :: st1 => match M[i]? with
    | some (.inl (t', z, .inr (.inr (.inr (.inr f))))) => match Nat.beq t' t with
      | true => vp_in j z ∧ ∃ k, f j.toNatClampNeg = some k ∧ K n L (.ref k :: st1) M b
      | false => False
    | _ => False
  | _ => False
theorem s_aald {d : TrD} {G : GX} {pc t : Nat} (ht : t = 3 ∨ t = 4) (hd : decode d.2.1 pc = .ok (.aaload, 1)) : Snd d G pc (o_aald (pc + 1) t) := by
  intro p l e R s m args below meth c Z D cy ex A n0 ad0 Q C' g K hK L st M b h ad H locs ls h1 h2 h3 h4 h5 h6 h7 hP hD hS hl
  unfold o_aald at h
  split at h
  · rename_i j i st1
    split at h
    · rename_i t' z f hM
      split at h
      · rename_i hb
        cases Nat.eq_of_beq_eq_true hb
        obtain ⟨hin, k, hf, hk⟩ := h
        have hq := xw_at (cy := cy) (ad := ad) (ex := ex) hM
        have hlt : j.toNatClampNeg < z := Nat.not_le.mp fun q => hin (Or.inr q)
        have hv : va_rf ((f j.toNatClampNeg).map ad) = .ref (ad k) := by rw [hf]; rfl
        have goal := hK _ _ _ _ _ hk ad H locs ls h1 h2 h3 (scl.cons (show vcl M.length (.ref k) from (h3.at hM) _ _ hf) h4.tl.tl) h5 h6 h7 hP hD hS hl
        have go : ∀ ty : FieldType, (refKind ty = true) → ArrOfT s (cy t) ty → W p l e R s m args below meth c H locs (R.cells - b.1) (R.slots - b.2) Z (F0 m pc ls ((.int j :: .ref i :: st1).map (xv ad ex))) := by
          intro ty hty hA
          exact W.aald (v := .ref (ad k)) (ty := ty) C'.1 C'.2.1 (hP i _ hq) (hA z (fun j => va_rf ((f j).map ad))) hty (fun q => by cases q) (by show ¬ (j < 0 ∨ (arrV _ _ _).slots.size ≤ _); rw [arrV_size]; exact hin) (by show (arrV _ _ _).slots[_]? = _; rw [arrV_read _ _ hlt]; exact congrArg some hv) rfl rfl hd goal
        rcases ht with rfl | rfl
        · exact go _ rfl ((C'.2.2.2.2.2.1).2 3 (cy 3, .object "PlateArm$State") rfl).1
        · exact go _ rfl ((C'.2.2.2.2.2.1).2 4 (cy 4, .array .int) rfl).1
      · exact h.elim
    · exact h.elim
  · exact h.elim
/-- a State into a State[] -/
def o_aast (n : Nat) : WOp := fun K Q L st M b => match st with
  | .ref r :: .int j :: .ref i :: st1 => match M[i]?, M[r]? with
    | some (.inl (3, z, .inr (.inr (.inr (.inr f))))), some (.inr (5, _)) => vp_in j z ∧ K n L st1 (M.set i (.inl (3, z, .inr (.inr (.inr (.inr (va_up f j.toNatClampNeg (some r)))))))) b
    | _, _ => False
  | _ => False
theorem s_aast {d : TrD} {G : GX} {pc : Nat} {T : u_T} {N : Nat} {ty : Nat → FieldType} (ok : ClOk 5 "PlateArm$State" T N ty) (hd : decode d.2.1 pc = .ok (.aastore, 1)) : Snd d G pc (o_aast (pc + 1)) := by
  intro p l e R s m args below meth c Z D cy ex A n0 ad0 Q C' g K hK L st M b h ad H locs ls h1 h2 h3 h4 h5 h6 h7 hP hD hS hl
  unfold o_aast at h
  split at h
  · rename_i r j i st1
    split at h
    · rename_i z f fs hM hr
      have hq := xw_at (cy := cy) (ad := ad) (ex := ex) hM
      have hq2 := xw_at (cy := cy) (ad := ad) (ex := ex) hr
      refine va_astq (D := D) C'.1 C'.2.1 C'.2.2.2.2.2.1 hP hD hS i 3 r 5 hq (r := ("PlateArm$State", T, N)) rfl hq2 ok.1 h.1 hd (fun H1 locs1 hP1 hD1 hS1 => ?_)
      have eq : (Sum.inl (cy 3, z, Sum.inr (Sum.inr (Sum.inr (Sum.inr (va_up (fun j => (f j).map ad) j.toNatClampNeg (some (ad r))))))) : va_E) = xo cy ad ex (.inl (3, z, .inr (.inr (.inr (.inr (va_up f j.toNatClampNeg (some r))))))) := by
        show _ = (Sum.inl (cy 3, z, Sum.inr (Sum.inr (Sum.inr (Sum.inr (fun q => (va_up f j.toNatClampNeg (some r) q).map ad))))) : va_E)
        congr 7
        funext q
        unfold va_up
        by_cases hqj : q = j.toNatClampNeg
        · simp [hqj]
        · simp [hqj]
      have hP2 : va_P D vwCl ((xw cy ad ex M).set i (ad i, xo cy ad ex (.inl (3, z, .inr (.inr (.inr (.inr (va_up f j.toNatClampNeg (some r))))))))) H1 := by rw [← eq]; exact hP1
      have hD2 : va_D A ((xw cy ad ex M).set i (ad i, xo cy ad ex (.inl (3, z, .inr (.inr (.inr (.inr (va_up f j.toNatClampNeg (some r))))))))) := by rw [← eq]; exact hD1
      refine XX_set (hK _ _ _ _ _ h.2) h1 h2 h3 ?_ h4.tl.tl.tl h5 h6 h7 hP2 hD2 hS1 hl
      intro q k hqk
      unfold va_up at hqk
      by_cases hqj : q = j.toNatClampNeg
      · rw [if_pos hqj] at hqk
        cases hqk
        exact h4.hd
      · rw [if_neg hqj] at hqk
        exact (h3.at hM) q k hqk
    · exact h.elim
  · exact h.elim
/-! what stood before -/
def o_gets (n : Nat) (v : Value) : WOp := fun K Q L st M b => K n L (v :: st) M b
theorem s_gets {d : TrD} {G : GX} {pc ix : Nat} {C nm dsc : String} {v : Value} (hz : (C, nm, dsc, v) ∈ EZ) (hd : decode d.2.1 pc = .ok (.getstatic ix, 3)) (hw : Cond.fieldLink d.1.cls ix C nm dsc ∈ WG) : Snd d G pc (o_gets (pc + 3) v) := by
  intro p l e R s m args below meth c Z D cy ex A n0 ad0 Q C' g K hK L st M b h ad H locs ls h1 h2 h3 h4 h5 h6 h7 hP hD hS hl
  have hn := EZ_nref _ hz
  refine va_gets C'.1 C'.2.1 ((C'.2.2.2.2.2.2.1).1 _ hz) hS C'.2.2.2.1 (C'.2.2.2.2.1 _ hw) (fun _ q => q) hd ?_
  have := hK _ _ _ _ _ h ad H locs ls h1 h2 h3 (scl.cons (nref_cl hn) h4) h5 h6 h7 hP hD hS hl
  rw [List.map_cons, xe_xv hn] at this
  exact this
def o_getx (n lo : Nat) (tab : List Value) : WOp := fun K Q L st M b => match st with
  | .float u :: st1 => match Nat.ble lo u.toNat, tab[u.toNat - lo]? with
    | true, some v => K n L (v :: st1) M b
    | _, _ => False
  | _ => False
theorem s_getx {d : TrD} {G : GX} {pc ix lo : Nat} {o nm dsc : String} {tab : List Value} (hz : ∀ (j : Nat) (v : Value), tab[j]? = some v → (lo + j, o, nm, dsc, v) ∈ EF) (hd : decode d.2.1 pc = .ok (.getfield ix, 3)) (hw : Cond.fieldLink d.1.cls ix o nm dsc ∈ WG) : Snd d G pc (o_getx (pc + 3) lo tab) := by
  intro p l e R s m args below meth c Z D cy ex A n0 ad0 Q C' g K hK L st M b h ad H locs ls h1 h2 h3 h4 h5 h6 h7 hP hD hS hl
  unfold o_getx at h
  split at h
  · rename_i u st1
    split at h
    · rename_i v hlo hv
      have hE := hz _ _ hv
      have hu : lo + (u.toNat - lo) = u.toNat := by have := Nat.le_of_ble_eq_true hlo; omega
      rw [hu] at hE
      have hn := EF_nref _ hE
      refine vk_getf C'.1 C'.2.1 ((C'.2.2.2.2.2.2.1).2.2.2.1 _ hE) hS C'.2.2.2.1 (C'.2.2.2.2.1 _ hw) (fun _ q => q) hd ?_
      have := hK _ _ _ _ _ h ad H locs ls h1 h2 h3 (scl.cons (nref_cl hn) h4.tl) h5 h6 h7 hP hD hS hl
      rw [List.map_cons, xe_xv hn] at this
      exact this
    · exact h.elim
  · exact h.elim
/-- a place of an int array from before, of id k, that holds l -/
def o_xald (n k : Nat) (l : List Int32) : WOp := fun K Q L st M b => match st with
  | .int j :: .float u :: st1 => match Nat.beq u.toNat k with
    | true => vp_in j l.length ∧ K n L (.int (l.getD j.toNatClampNeg 0) :: st1) M b
    | false => False
  | _ => False
theorem s_xald {d : TrD} {G : GX} {pc k : Nat} {l : List Int32} (hz : (k, FieldType.int, l.length, exB l) ∈ ET) (hd : decode d.2.1 pc = .ok (.iaload, 1)) : Snd d G pc (o_xald (pc + 1) k l) := by
  intro p l e R s m args below meth c Z D cy ex A n0 ad0 Q C' g K hK L st M b h ad H locs ls h1 h2 h3 h4 h5 h6 h7 hP hD hS hl
  unfold o_xald at h
  split at h
  · rename_i j u st1
    split at h
    · rename_i hb
      have e9 := Nat.eq_of_beq_eq_true hb
      have hT := (C'.2.2.2.2.2.2.1).2.1 _ hz
      refine va_ti (t := ex u.toNat) C'.1 C'.2.1 (by rw [e9]; exact hT) hS h.1 rfl hd ?_
      exact hK _ _ _ _ _ h.2 ad H locs ls h1 h2 h3 (scl.cons trivial h4.tl.tl) h5 h6 h7 hP hD hS hl
    · exact h.elim
  · exact h.elim
def o_xbald (n lo : Nat) (tab : List (List Int32)) : WOp := fun K Q L st M b => match st with
  | .int j :: .float u :: st1 => match Nat.ble lo u.toNat, tab[u.toNat - lo]? with
    | true, some l => vp_in j l.length ∧ K n L (.int (l.getD j.toNatClampNeg 0) :: st1) M b
    | _, _ => False
  | _ => False
theorem s_xbald {d : TrD} {G : GX} {pc lo : Nat} {tab : List (List Int32)} (hz : ∀ (j : Nat) (l : List Int32), tab[j]? = some l → (lo + j, FieldType.byte, l.length, exB l) ∈ ET) (hd : decode d.2.1 pc = .ok (.baload, 1)) : Snd d G pc (o_xbald (pc + 1) lo tab) := by
  intro p l e R s m args below meth c Z D cy ex A n0 ad0 Q C' g K hK L st M b h ad H locs ls h1 h2 h3 h4 h5 h6 h7 hP hD hS hl
  unfold o_xbald at h
  split at h
  · rename_i j u st1
    split at h
    · rename_i l9 hlo hv
      have hE := hz _ _ hv
      have hu : lo + (u.toNat - lo) = u.toNat := by have := Nat.le_of_ble_eq_true hlo; omega
      rw [hu] at hE
      have hT := (C'.2.2.2.2.2.2.1).2.1 _ hE
      refine va_tb (t := ex u.toNat) C'.1 C'.2.1 hT hS h.1 rfl hd ?_
      exact hK _ _ _ _ _ h.2 ad H locs ls h1 h2 h3 (scl.cons trivial h4.tl.tl) h5 h6 h7 hP hD hS hl
    · exact h.elim
  · exact h.elim
def o_xlen (n lo : Nat) (tab : List Nat) : WOp := fun K Q L st M b => match st with
  | .float u :: st1 => match Nat.ble lo u.toNat, tab[u.toNat - lo]? with
    | true, some z => K n L (.int (Int32.ofNat z) :: st1) M b
    | _, _ => False
  | _ => False
theorem s_xlen {d : TrD} {G : GX} {pc lo : Nat} {tab : List Nat} (hz : ∀ (j z : Nat), tab[j]? = some z → ∃ ty f, (lo + j, ty, z, f) ∈ ET) (hd : decode d.2.1 pc = .ok (.arraylength, 1)) : Snd d G pc (o_xlen (pc + 1) lo tab) := by
  intro p l e R s m args below meth c Z D cy ex A n0 ad0 Q C' g K hK L st M b h ad H locs ls h1 h2 h3 h4 h5 h6 h7 hP hD hS hl
  unfold o_xlen at h
  split at h
  · rename_i u st1
    split at h
    · rename_i z hlo hv
      obtain ⟨ty, f, hE⟩ := hz _ _ hv
      have hu : lo + (u.toNat - lo) = u.toNat := by have := Nat.le_of_ble_eq_true hlo; omega
      rw [hu] at hE
      have hT := (C'.2.2.2.2.2.2.1).2.1 _ hE
      refine va_tlen (t := ex u.toNat) C'.1 C'.2.1 hT hS rfl hd ?_
      exact hK _ _ _ _ _ h ad H locs ls h1 h2 h3 (scl.cons trivial h4.tl) h5 h6 h7 hP hD hS hl
    · exact h.elim
  · exact h.elim
