/-! ===== new things, copies, Math, constructors ===== -/
def dflt : Value → Bool
  | .int _ => true
  | .long _ => true
  | .null => true
  | _ => false
theorem dflt_xv {ad ex : Nat → Nat} {v : Value} (h : dflt v = true) : xv ad ex v = v := by cases v <;> first | rfl | cases h
theorem dflt_cl {n : Nat} {v : Value} (h : dflt v = true) : vcl n v := by cases v <;> first | exact trivial | cases h
/-- what goes on behind a new cell -/
theorem XX_push {p : Program} {l : Launch} {e : Env} {R : Room} {s : State} {m : MethodId} {args : Array Value} {below : List Frame} {meth : Method} {c : Code} {Z : State → Prop} {D : va_G} {cy ex : Nat → Nat} {A : Nat → Prop} {n0 : Nat} {ad0 : Nat → Nat} {nL pc : Nat} {L : AL} {st : List Value} {M : AM} {b : AB} {o : AO} {ad : Nat → Nat} {q : Nat} {E : va_E} {H1 : Heap} {locs1 : List Loc} {ls : Array Slot}
    (h : XX p l e R s m args below meth c Z D cy ex A n0 ad0 nL pc L (.ref M.length :: st) (M ++ [o]) b) (h1 : Agr n0 ad0 ad) (h2 : n0 ≤ M.length) (h3 : mcl M) (ho : ocl (M.length + 1) o) (h4 : scl M.length st) (h5 : lcl M.length L) (h6 : b.1 ≤ R.cells) (h7 : b.2 ≤ R.slots)
    (hE : ∀ ad' : Nat → Nat, xo cy ad' ex o = E) (hP : va_P D vwCl (xw cy ad ex M ++ [(q, E)]) H1) (hD : va_D A (xw cy ad ex M ++ [(q, E)])) (hS : va_S A s.heap H1 locs1) (hl : lv_has ls nL (xl ad ex L)) : W p l e R s m args below meth c H1 locs1 (R.cells - b.1) (R.slots - b.2) Z (F0 m pc ls (.ref q :: st.map (xv ad ex))) := by
  obtain ⟨ad', hda⟩ : ∃ z : Nat → Nat, z = fun j => if j = M.length then q else ad j := ⟨_, rfl⟩
  have hag : Agr M.length ad ad' := fun k hk => by rw [hda]; exact if_neg (Nat.ne_of_lt hk)
  have hq : ad' M.length = q := by rw [hda]; exact if_pos rfl
  have ew : xw cy ad ex M ++ [(q, E)] = xw cy ad' ex (M ++ [o]) := by
    rw [← xw_push, hq, hE, xw_agr hag h3]
  have es : (Value.ref q :: st.map (xv ad ex)) = (Value.ref M.length :: st).map (xv ad' ex) := by
    rw [List.map_cons, st_agr hag h4]
    show _ = Value.ref (ad' M.length) :: _
    rw [hq]
  have el : (M ++ [o]).length = M.length + 1 := List.length_append
  rw [es]
  exact h ad' H1 locs1 ls (h1.tr hag h2) (by omega) (h3.push ho) (by rw [el]; exact scl.cons (Nat.lt_succ_self _) (h4.mono (Nat.le_succ _))) (by rw [el]; exact h5.mono (Nat.le_succ _)) h6 h7 (by rw [← ew]; exact hP) (by rw [← ew]; exact hD) hS (xl_agr hag h5 hl)
def o_new (n ci N : Nat) (fs : List Value) : WOp := fun K Q L st M b => match Nat.ble 1 b.1, Nat.ble N b.2 with
  | true, true => K n L (.ref M.length :: st) (M ++ [.inr (ci, fs)]) (b.1 - 1, b.2 - N)
  | _, _ => False
theorem s_new {d : TrD} {G : GX} {pc ix ci N : Nat} {C : String} {T : u_T} {ty : Nat → FieldType} {fs : List Value} (ok : ClOk ci C T N ty) (hfs : ∀ j, j < N → defaultValue (ty j) = vp_V fs j) (hdf : ∀ v ∈ fs, dflt v = true) (hw1 : Cond.classLink d.1.cls ix C ∈ WG) (hw2 : Cond.instantiable C N ∈ WG) (hw3 : Cond.initialized C ∈ WG) (hd : decode d.2.1 pc = .ok (.new ix, 3)) : Snd d G pc (o_new (pc + 3) ci N fs) := by
  intro p l e R s m args below meth c Z D cy ex A n0 ad0 Q C' g K hK L st M b h ad H locs ls h1 h2 h3 h4 h5 h6 h7 hP hD hS hl
  unfold o_new at h
  split at h
  · rename_i hb1 hb2
    have hb1 := Nat.le_of_ble_eq_true hb1
    have hb2 := Nat.le_of_ble_eq_true hb2
    refine va_new (ci := ci) (fs := fs) (C := C) (T := T) (N := N) C'.1 C'.2.1 C'.2.2.2.2.1 ok.2.1 ty ok.2.2.1 C'.2.2.2.1 (C'.2.2.2.2.1 _ hw1) (C'.2.2.2.2.1 _ hw2) (C'.2.2.2.2.1 _ hw3) C'.2.2.2.2.2.1 hP hD hS C'.2.2.2.2.2.2.2.1 ok.1 hfs (by omega) (by omega) hd (fun q H1 hP1 hD1 hS1 => ?_)
    have e1 : R.cells - b.1 + 1 = R.cells - (b.1 - 1) := by omega
    have e2 : R.slots - b.2 + N = R.slots - (b.2 - N) := by omega
    rw [e1, e2]
    refine XX_push (b := (b.1 - 1, b.2 - N)) (hK _ _ _ _ _ h) h1 h2 h3 (fun v hv => dflt_cl (hdf v hv)) h4 h5 (Nat.le_trans (Nat.sub_le _ _) h6) (Nat.le_trans (Nat.sub_le _ _) h7) (fun ad' => ?_) hP1 hD1 hS1 hl
    show (Sum.inr (ci, fs.map (xv ad' ex)) : va_E) = Sum.inr (ci, fs)
    congr 2
    exact (List.map_congr_left fun v hv => dflt_xv (hdf v hv)).trans (List.map_id' fs)
  · exact h.elim
/-- zeros of a primitive kind -/
def zerC (t : Nat) : XCn := match t with
  | 2 => .inr (.inl (fun _ => 0))
  | _ => .inl (fun _ => 0)
def o_newa (n t N : Nat) : WOp := fun K Q L st M b => match st, Nat.ble 1 b.1, Nat.ble N b.2 with
  | .int z :: st1, true, true => z = Int32.ofNat N ∧ K n L (.ref M.length :: st1) (M ++ [.inl (t, N, zerC t)]) (b.1 - 1, b.2 - N)
  | _, _, _ => False
theorem s_newa {d : TrD} {G : GX} {pc t N : Nat} {at_ : ArrayType} {ty : FieldType} (hty : newarray.typeOf at_ = ty) (ht : (t = 0 ∧ ty = .int) ∨ (t = 1 ∧ ty = .byte)) (hN : N < 1000) (hw : Cond.arrayClass ty ∈ WG) (hd : decode d.2.1 pc = .ok (.newarray at_, 2)) : Snd d G pc (o_newa (pc + 2) t N) := by
  intro p l e R s m args below meth c Z D cy ex A n0 ad0 Q C' g K hK L st M b h ad H locs ls h1 h2 h3 h4 h5 h6 h7 hP hD hS hl
  unfold o_newa at h
  split at h
  · rename_i z st1 hb1 hb2
    have hb1 := Nat.le_of_ble_eq_true hb1
    have hb2 := Nat.le_of_ble_eq_true hb2
    obtain ⟨hz, h⟩ := h
    have hz0 : ¬ z < 0 := by rw [hz]; exact nI_pos (n := N) (by omega)
    have hzN : z.toNatClampNeg = N := by rw [hz]; exact nI_clamp (n := N) (by omega)
    have hbt : N * componentBytes ty ≤ 536870912 := by
      rcases ht with ⟨_, rfl⟩ | ⟨_, rfl⟩
      · show N * 4 ≤ _; omega
      · show N * 1 ≤ _; omega
    have ha : ∀ cA : ClassId, vp_cell cA (N, zerC t) = arrV cA N (fun _ => defaultValue ty) := by
      intro cA
      rcases ht with ⟨rfl, rfl⟩ | ⟨rfl, rfl⟩ <;> rfl
    refine va_newa (ty := ty) (a0 := (N, zerC t)) C'.1 C'.2.1 (by rw [hty]; exact C'.2.2.2.2.1 _ hw) hty C'.2.2.2.2.2.1 hP hD hS C'.2.2.2.2.2.2.2.1 ha hz0 hzN hbt (by omega) (by omega) hd (fun q cA H1 hK1 hP1 hD1 hS1 => ?_)
    have e1 : R.cells - b.1 + 1 = R.cells - (b.1 - 1) := by omega
    have e2 : R.slots - b.2 + N = R.slots - (b.2 - N) := by omega
    rw [e1, e2]
    have hcA : cA = cy t := by
      have k1 := (hK1.2 5 (cA, ty) rfl).2
      rcases ht with ⟨rfl, rfl⟩ | ⟨rfl, rfl⟩
      · exact Option.some.inj (k1.symm.trans (C'.2.2.2.2.2.1.2 0 (cy 0, .int) rfl).2)
      · exact Option.some.inj (k1.symm.trans (C'.2.2.2.2.2.1.2 1 (cy 1, .byte) rfl).2)
    subst hcA
    refine XX_push (b := (b.1 - 1, b.2 - N)) (o := .inl (t, N, zerC t)) (hK _ _ _ _ _ h) h1 h2 h3 ?_ h4.tl h5 (Nat.le_trans (Nat.sub_le _ _) h6) (Nat.le_trans (Nat.sub_le _ _) h7) (fun ad' => ?_) hP1 hD1 hS1 hl
    · rcases ht with ⟨rfl, rfl⟩ | ⟨rfl, rfl⟩ <;> exact trivial
    · rcases ht with ⟨rfl, rfl⟩ | ⟨rfl, rfl⟩ <;> rfl
  · exact h.elim
/-- new PlateArm$State[N] -/
def o_anewa (n N : Nat) : WOp := fun K Q L st M b => match st, Nat.ble 1 b.1, Nat.ble N b.2 with
  | .int z :: st1, true, true => z = Int32.ofNat N ∧ K n L (.ref M.length :: st1) (M ++ [.inl (3, N, .inr (.inr (.inr (.inr (fun _ => none)))))]) (b.1 - 1, b.2 - N)
  | _, _, _ => False
theorem s_anewa {d : TrD} {G : GX} {pc ix N : Nat} (hN : N < 1000) (hw : Cond.classLink d.1.cls ix "PlateArm$State" ∈ WG) (hd : decode d.2.1 pc = .ok (.anewarray ix, 3)) : Snd d G pc (o_anewa (pc + 3) N) := by
  intro p l e R s m args below meth c Z D cy ex A n0 ad0 Q C' g K hK L st M b h ad H locs ls h1 h2 h3 h4 h5 h6 h7 hP hD hS hl
  unfold o_anewa at h
  split at h
  · rename_i z st1 hb1 hb2
    have hb1 := Nat.le_of_ble_eq_true hb1
    have hb2 := Nat.le_of_ble_eq_true hb2
    obtain ⟨hz, h⟩ := h
    have hz0 : ¬ z < 0 := by rw [hz]; exact nI_pos (n := N) (by omega)
    have hzN : z.toNatClampNeg = N := by rw [hz]; exact nI_clamp (n := N) (by omega)
    refine va_newq C'.1 C'.2.1 C'.2.2.2.1 (C'.2.2.2.2.1 _ hw) (C'.2.2.2.2.2.2.1.2.2.2.2.2.2.2.2.2.1) C'.2.2.2.2.2.1 hP hD hS C'.2.2.2.2.2.2.2.1 hz0 hzN (by omega) (by omega) (by omega) hd (fun q cA H1 hK1 hP1 hD1 hS1 => ?_)
    have e1 : R.cells - b.1 + 1 = R.cells - (b.1 - 1) := by omega
    have e2 : R.slots - b.2 + N = R.slots - (b.2 - N) := by omega
    rw [e1, e2]
    have hcA : cA = cy 3 := by
      obtain ⟨_, _, _, _, _, k1⟩ := (hK1.2 5 (cA, .object "PlateArm$State") rfl).2
      obtain ⟨_, _, _, _, _, k2⟩ := (C'.2.2.2.2.2.1.2 3 (cy 3, .object "PlateArm$State") rfl).2
      exact Option.some.inj (k1.symm.trans k2)
    subst hcA
    exact XX_push (b := (b.1 - 1, b.2 - N)) (o := .inl (3, N, .inr (.inr (.inr (.inr (fun _ => none)))))) (hK _ _ _ _ _ h) h1 h2 h3 (fun j k hk => by cases hk) h4.tl h5 (Nat.le_trans (Nat.sub_le _ _) h6) (Nat.le_trans (Nat.sub_le _ _) h7) (fun ad' => rfl) hP1 hD1 hS1 hl
  · exact h.elim
/-- Object() -/
def o_objinit (n : Nat) : WOp := fun K Q L st M b => match st with
  | [.ref _] => K n L [] M b
  | _ => False
theorem s_objinit {d : TrD} {G : GX} {pc ix : Nat} (hw1 : Cond.methodLink d.1.cls ix Lib.objectInit ∈ WG) (hw2 : Cond.instanceMethod Lib.objectInit ∈ WG) (hw3 : Cond.code Lib.objectInit ⟨#[0xb1]⟩ 1 none ∈ WG) (hf : 1 ≤ d.2.2.2.2.1) (hlo : 12 ≤ d.2.2.2.2.2) (hd : decode d.2.1 pc = .ok (.invokespecial ix, 3)) : Snd d G pc (o_objinit (pc + 3)) := by
  intro p l e R s m args below meth c Z D cy ex A n0 ad0 Q C' g K hK L st M b h ad H locs ls h1 h2 h3 h4 h5 h6 h7 hP hD hS hl
  unfold o_objinit at h
  split at h
  · rename_i r
    refine W.objInit C'.1 C'.2.1 C'.2.2.2.1 (C'.2.2.2.2.1 _ hw1) (C'.2.2.2.2.1 _ hw2) (C'.2.2.2.2.1 _ hw3) (g := F0 m pc ls ([Value.ref r].map (xv ad ex))) rfl (by rw [C'.2.2.1]; exact hl.1) (rest := []) rfl hd (by rw [C'.2.2.2.2.2.2.2.2.1]; exact hf) (by rw [C'.2.2.2.2.2.2.2.2.2.1]; exact hlo) ?_
    exact hK _ _ _ _ _ h ad H locs ls h1 h2 h3 h4.tl h5 h6 h7 hP hD hS hl
  · exact h.elim
/-! constructors -/
def rKi (n : Nat) (mc ms : Nat) (K : WK) (L : AL) (rest : List Value) (b : AB) : AQ := fun o M' => match o with
  | .inl v => K n L (v.toList ++ rest) M' (b.1 - mc, b.2 - ms)
  | .inr _ => False
def o_callI (n nargs : Nat) (d' : TrD) (mc ms : Nat) : WOp := fun K Q L st M b => match st.drop nargs with
  | .ref r :: rest => match Nat.ble ((rest.map Value.category).sum) 8, Nat.ble mc b.1, Nat.ble ms b.2 with
    | true, true, true => Tr d' mc ms (.ref r :: (st.take nargs).reverse) M (rKi n mc ms K L rest b)
    | _, _, _ => False
  | _ => False
theorem s_callI {d d' : TrD} {G : GX} {pc ix nargs mc ms : Nat} (cc : CallC d d' nargs) (hin : d'.1.name = "<init>") (hret : d'.2.2.2.1 = none) (hw1 : Cond.methodLink d.1.cls ix d'.1 ∈ WG ∨ ∃ host, (d.1.cls, ix, d'.1, host) ∈ EWn) (hw2 : Cond.instanceMethod d'.1 ∈ WG) (hd : decode d.2.1 pc = .ok (.invokespecial ix, 3)) : Snd d G pc (o_callI (pc + 3) nargs d' mc ms) := by
  intro p l e R s m args below meth c Z D cy ex A n0 ad0 Q C g K hK L st M b h ad H locs ls h1 h2 h3 h4 h5 h6 h7 hP hD hS hl
  unfold o_callI at h
  split at h
  · rename_i r rest hst
    split at h
    · rename_i hcat hmc hms
      have hmc := Nat.le_of_ble_eq_true hmc
      have hms := Nat.le_of_ble_eq_true hms
      have hrest : scl M.length (.ref r :: rest) := fun w hw => h4 w (List.mem_of_mem_drop (hst ▸ hw))
      have hargs : scl M.length (.ref r :: (st.take nargs).reverse) := scl.cons hrest.hd (fun w hw => h4 w (List.mem_of_mem_take (List.mem_reverse.mp hw)))
      have hT := h h3 hargs l D cy ex ad H.size C.2.2.2.2.2.2.2.2.2.2.2.1
      have hMt : Met l d'.1 (wsOf d') (rmOf d' mc ms) (va_Pc ((Value.ref r :: (st.take nargs).reverse).map (xv ad ex)) (TPre D cy ex ad H.size M)) (TRet D cy ex ad M (va_A (xw cy ad ex M) H.size) (rKall (pc + 3) mc ms K Q L rest b)) mc ms (va_A (xw cy ad ex M) H.size) := by
        refine met_of hT ?_ ?_
        · rintro a s9 o t ⟨⟨ad', v, M', q1, q2, q3⟩, hF⟩
          exact ⟨⟨ad', v, M', q1, q2, q3⟩, hF⟩
        · rintro E s9 t ⟨ad', M', q1, q2⟩
          exact q1
      obtain ⟨c1, c2, c3, c4, c5, c6, c7⟩ := cc
      have hr2 : (parseMethodDescriptor d'.1.desc).map (fun d => d.parameters.length) = some nargs := c3
      have hgood : GoodIn WG (wsOf d') := WG_in (by
        intro w hw
        rcases List.mem_cons.mp hw with rfl | hw
        · exact c7
        · exact hw)
      have hstk : st.map (xv ad ex) = (((st.take nargs).reverse).map (xv ad ex)).reverse ++ .ref (ad r) :: rest.map (xv ad ex) := by
        rw [← List.map_reverse, List.reverse_reverse, ← List.take_append_drop nargs st, List.map_append, List.take_append_drop, hst]
        rfl
      have hrun : va_Run p l e R s m args below meth c H locs (R.cells - b.1) (R.slots - b.2) mc ms (F0 m pc ls (st.map (xv ad ex))) (rest.map (xv ad ex)) (TRet D cy ex ad M (va_A (xw cy ad ex M) H.size) (rKall (pc + 3) mc ms K Q L rest b) (Value.ref (ad r) :: ((st.take nargs).reverse).map (xv ad ex)).toArray) (va_A (xw cy ad ex M) H.size) := by
        have hlo : 8 + (d'.2.2.1 + 11) + d'.2.2.2.2.2 ≤ R.locals := by rw [C.2.2.2.2.2.2.2.2.2.1]; exact c5
        have hfr : d'.2.2.2.2.1 + 1 ≤ R.frames := by rw [C.2.2.2.2.2.2.2.2.1]; exact c4
        have hwsO : wsOf d' = Cond.code d'.1 d'.2.1 d'.2.2.1 none :: WG := by unfold wsOf; rw [hret]
        rcases hw1 with hw1 | ⟨host, hw1⟩
        · exact va_runI (b := ad r) (As := ((st.take nargs).reverse).map (xv ad ex)) (rest := rest.map (xv ad ex)) ⟨C.1, C.2.1, C.2.2.1, C.2.2.2.1, C.2.2.2.2.1⟩ hMt (cwI nargs C.2.2.2.2.1 hgood hwsO rfl rfl (C.2.2.2.2.1 _ c6) (C.2.2.2.2.1 _ hw1) (C.2.2.2.2.1 _ hw2) hin ⟨c1, c2, c3⟩ ⟨hfr, hlo⟩) ⟨TPre_blind, fun U hU hW => ⟨rfl, tpre_at C hP hD hS U hU hW⟩⟩ rfl (by rw [List.length_map, List.length_reverse, take_len hst]) hl.1 hstk (lv_room (by rw [cat_map]; exact Nat.le_of_ble_eq_true hcat)) hd ⟨by omega, by omega⟩
        · exact va_runIN (b := ad r) (As := ((st.take nargs).reverse).map (xv ad ex)) (rest := rest.map (xv ad ex)) ⟨C.1, C.2.1, C.2.2.1, C.2.2.2.1, C.2.2.2.2.1⟩ hMt ⟨va_cnB nargs C.2.2.2.2.1 hgood hwsO rfl rfl (C.2.2.2.2.2.2.1.2.2.2.2.2.2.1 _ hw1) (C.2.2.2.2.1 _ c6) ⟨c1, c2, c3⟩ ⟨hfr, hlo⟩, hin, C.2.2.2.2.1 _ hw2⟩ ⟨TPre_blind, fun U hU hW => ⟨rfl, tpre_at C hP hD hS U hU hW⟩⟩ rfl (by rw [List.length_map, List.length_reverse, take_len hst]) hl.1 hstk (lv_room (by rw [cat_map]; exact Nat.le_of_ble_eq_true hcat)) hd ⟨by omega, by omega⟩
      exact run_on C hK rfl hmc hms h1 h2 h3 hrest.tl h5 h6 h7 hP hD hS hl (fun T hT9 X => Or.inl (hrun T hT9 X))
    · exact h.elim
  · exact h.elim
/-! Math, System -/
def o_mmax (n : Nat) : WOp := fun K Q L st M b => match st with
  | .int y :: .int x :: rest => match Nat.ble ((rest.map Value.category).sum) 8 with
    | true => K n L (.int (if x < y then y else x) :: rest) M b
    | _ => False
  | _ => False
def o_mmin (n : Nat) : WOp := fun K Q L st M b => match st with
  | .int y :: .int x :: rest => match Nat.ble ((rest.map Value.category).sum) 8 with
    | true => K n L (.int (if y < x then y else x) :: rest) M b
    | _ => False
  | _ => False
def o_mabs (n : Nat) : WOp := fun K Q L st M b => match st with
  | .int x :: rest => match Nat.ble ((rest.map Value.category).sum) 8 with
    | true => K n L (.int (if 0 ≤ x then x else 0 - x) :: rest) M b
    | _ => False
  | _ => False
def o_copy (n : Nat) : WOp := fun K Q L st M b => match st with
  | [.int z, .int dp, .ref i1, .int sp, .ref i0] => match M[i0]?, M[i1]? with
    | some (.inl (0, k0, .inl f)), some (.inl (0, k1, .inl g)) => (¬ sp < 0 ∧ ¬ dp < 0 ∧ ¬ z < 0 ∧ sp.toNatClampNeg + z.toNatClampNeg ≤ k0 ∧ dp.toNatClampNeg + z.toNatClampNeg ≤ k1) ∧ K n L [] (M.set i1 (.inl (0, k1, .inl (va_cpy f g sp.toNatClampNeg dp.toNatClampNeg z.toNatClampNeg)))) b
    | _, _ => False
  | _ => False
theorem s_mmax {d : TrD} {G : GX} {pc ix : Nat} (hw1 : Cond.methodLink d.1.cls ix Lib.Math.max.name ∈ WG) (hw2 : Cond.static Lib.Math.max.name ∈ WG) (hw3 : Cond.initialized "java/lang/Math" ∈ WG) (hw4 : Cond.code Lib.Math.max.name Lib.Math.max.code 2 (some .int) ∈ WG) (hf : 1 ≤ d.2.2.2.2.1) (hlo : 21 ≤ d.2.2.2.2.2) (hd : decode d.2.1 pc = .ok (.invokestatic ix, 3)) : Snd d G pc (o_mmax (pc + 3)) := by
  intro p l e R s m args below meth c Z D cy ex A n0 ad0 Q C' g K hK L st M b h ad H locs ls h1 h2 h3 h4 h5 h6 h7 hP hD hS hl
  unfold o_mmax at h
  split at h
  · rename_i y x rest
    split at h
    · rename_i hcat
      have hcat := Nat.le_of_ble_eq_true hcat
      refine va_mmax (rest := rest.map (xv ad ex)) C'.1 C'.2.1 (C'.2.2.1.trans hl.1.symm) C'.2.2.2.1 (C'.2.2.2.2.1 _ hw1) (C'.2.2.2.2.1 _ hw2) (C'.2.2.2.2.1 _ hw3) (C'.2.2.2.2.1 _ hw4) (by rw [C'.2.2.2.2.2.2.2.2.1]; exact hf) (by rw [C'.2.2.2.2.2.2.2.2.2.1, cat_map]; omega) (Nat.sub_le _ _) (Nat.sub_le _ _) hd ?_
      exact hK _ _ _ _ _ h ad H locs ls h1 h2 h3 (scl.cons trivial h4.tl.tl) h5 h6 h7 hP hD hS hl
    · exact h.elim
  · exact h.elim
theorem s_mmin {d : TrD} {G : GX} {pc ix : Nat} (hw1 : Cond.methodLink d.1.cls ix Lib.Math.min.name ∈ WG) (hw2 : Cond.static Lib.Math.min.name ∈ WG) (hw3 : Cond.initialized "java/lang/Math" ∈ WG) (hw4 : Cond.code Lib.Math.min.name Lib.Math.min.code 2 (some .int) ∈ WG) (hf : 1 ≤ d.2.2.2.2.1) (hlo : 21 ≤ d.2.2.2.2.2) (hd : decode d.2.1 pc = .ok (.invokestatic ix, 3)) : Snd d G pc (o_mmin (pc + 3)) := by
  intro p l e R s m args below meth c Z D cy ex A n0 ad0 Q C' g K hK L st M b h ad H locs ls h1 h2 h3 h4 h5 h6 h7 hP hD hS hl
  unfold o_mmin at h
  split at h
  · rename_i y x rest
    split at h
    · rename_i hcat
      have hcat := Nat.le_of_ble_eq_true hcat
      refine va_mmin (rest := rest.map (xv ad ex)) C'.1 C'.2.1 (C'.2.2.1.trans hl.1.symm) C'.2.2.2.1 (C'.2.2.2.2.1 _ hw1) (C'.2.2.2.2.1 _ hw2) (C'.2.2.2.2.1 _ hw3) (C'.2.2.2.2.1 _ hw4) (by rw [C'.2.2.2.2.2.2.2.2.1]; exact hf) (by rw [C'.2.2.2.2.2.2.2.2.2.1, cat_map]; omega) (Nat.sub_le _ _) (Nat.sub_le _ _) hd ?_
      exact hK _ _ _ _ _ h ad H locs ls h1 h2 h3 (scl.cons trivial h4.tl.tl) h5 h6 h7 hP hD hS hl
    · exact h.elim
  · exact h.elim
theorem s_mabs {d : TrD} {G : GX} {pc ix : Nat} (hw1 : Cond.methodLink d.1.cls ix Lib.Math.abs.name ∈ WG) (hw2 : Cond.static Lib.Math.abs.name ∈ WG) (hw3 : Cond.initialized "java/lang/Math" ∈ WG) (hw4 : Cond.code Lib.Math.abs.name Lib.Math.abs.code 1 (some .int) ∈ WG) (hf : 1 ≤ d.2.2.2.2.1) (hlo : 21 ≤ d.2.2.2.2.2) (hd : decode d.2.1 pc = .ok (.invokestatic ix, 3)) : Snd d G pc (o_mabs (pc + 3)) := by
  intro p l e R s m args below meth c Z D cy ex A n0 ad0 Q C' g K hK L st M b h ad H locs ls h1 h2 h3 h4 h5 h6 h7 hP hD hS hl
  unfold o_mabs at h
  split at h
  · rename_i x rest
    split at h
    · rename_i hcat
      have hcat := Nat.le_of_ble_eq_true hcat
      refine va_mabs (rest := rest.map (xv ad ex)) C'.1 C'.2.1 (C'.2.2.1.trans hl.1.symm) C'.2.2.2.1 (C'.2.2.2.2.1 _ hw1) (C'.2.2.2.2.1 _ hw2) (C'.2.2.2.2.1 _ hw3) (C'.2.2.2.2.1 _ hw4) (by rw [C'.2.2.2.2.2.2.2.2.1]; exact hf) (by rw [C'.2.2.2.2.2.2.2.2.2.1, cat_map]; omega) (Nat.sub_le _ _) (Nat.sub_le _ _) hd ?_
      exact hK _ _ _ _ _ h ad H locs ls h1 h2 h3 (scl.cons trivial h4.tl) h5 h6 h7 hP hD hS hl
    · exact h.elim
  · exact h.elim
theorem s_copy {d : TrD} {G : GX} {pc ix : Nat} (hw1 : Cond.methodLink d.1.cls ix arraycopyName ∈ WG) (hw2 : Cond.native arraycopyName ∈ WG) (hw3 : Cond.static arraycopyName ∈ WG) (hw4 : Cond.initialized "java/lang/System" ∈ WG) (hf : 1 ≤ d.2.2.2.2.1) (hlo : nativeFrameWords "java/lang/System" "arraycopy" 5 + 11 ≤ d.2.2.2.2.2) (hd : decode d.2.1 pc = .ok (.invokestatic ix, 3)) : Snd d G pc (o_copy (pc + 3)) := by
  intro p l e R s m args below meth c Z D cy ex A n0 ad0 Q C' g K hK L st M b h ad H locs ls h1 h2 h3 h4 h5 h6 h7 hP hD hS hl
  unfold o_copy at h
  split at h
  · rename_i z dp i1 sp i0
    split at h
    · rename_i k0 f k1 g2 hM0 hM1
      obtain ⟨⟨q1, q2, q3, q4, q5⟩, h⟩ := h
      have hq0 := xw_at (cy := cy) (ad := ad) (ex := ex) hM0
      have hq1 := xw_at (cy := cy) (ad := ad) (ex := ex) hM1
      refine va_copyi (rest := []) (ty := .int) C'.1 C'.2.1 (C'.2.2.1.trans hl.1.symm) C'.2.2.2.1 (C'.2.2.2.2.1 _ hw1) (C'.2.2.2.2.1 _ hw2) (C'.2.2.2.2.1 _ hw3) (C'.2.2.2.2.1 _ hw4) C'.2.2.2.2.2.1 hP hD hS i0 i1 0 0 hq0 hq1 rfl rfl rfl q1 q2 q3 q4 q5 (fun _ _ => rfl) (by rw [C'.2.2.2.2.2.2.2.2.1]; exact hf) (by rw [C'.2.2.2.2.2.2.2.2.2.1]; show 0 + _ ≤ _; omega) hd (fun H1 locs1 hP1 hD1 hS1 => ?_)
      exact XX_set (st := []) (o := .inl (0, k1, .inl (va_cpy f g2 sp.toNatClampNeg dp.toNatClampNeg z.toNatClampNeg))) (hK _ _ _ _ _ h) h1 h2 h3 trivial (fun _ q => nomatch q) h5 h6 h7 hP1 hD1 hS1 hl
    · exact h.elim
  · exact h.elim
/-- a switch over a row of places -/
def swK (K : Nat → Prop) (x : Int32) (df : Nat) : Int32 → List Nat → Prop
  | _, [] => K df
  | v, t :: ts => (x = v → K t) ∧ (¬ x = v → swK K x df (v + 1) ts)
def o_tsw (lo : Int32) (ts : List Nat) (df : Nat) : WOp := fun K Q L st M b => match st with
  | .int x :: st1 => swK (fun t => K t L st1 M b) x df lo ts
  | _ => False
theorem swK_in {K : Nat → Prop} {x : Int32} {df : Nat} : ∀ (ts : List Nat) (lo : Int32) (k t : Nat), swK K x df lo ts → ts[k]? = some t → (∀ j, j < k → ¬ x = lo + Int32.ofNat j) → x = lo + Int32.ofNat k → K t
  | t0 :: ts, lo, 0, t, h, hk, _, hx => by
    cases hk
    exact h.1 (by rw [hx, show Int32.ofNat 0 = 0 from rfl, Int32.add_zero])
  | t0 :: ts, lo, k + 1, t, h, hk, hj, hx => by
    have h2 := h.2 (fun q => hj 0 (Nat.succ_pos k) (by rw [q, show Int32.ofNat 0 = 0 from rfl, Int32.add_zero]))
    have e : ∀ j : Nat, lo + 1 + Int32.ofNat j = lo + Int32.ofNat (j + 1) := fun j => by
      rw [Int32.add_assoc]
      congr 1
      show (1 : Int32) + nI j = nI (j + 1)
      rw [nI_succ, Int32.add_comm]
    exact swK_in ts (lo + 1) k t h2 hk (fun j hj2 => by rw [e]; exact hj (j + 1) (Nat.succ_lt_succ hj2)) (by rw [e]; exact hx)
  | [], _, k, t, _, hk, _, _ => by simp at hk
theorem swK_out {K : Nat → Prop} {x : Int32} {df : Nat} : ∀ (ts : List Nat) (lo : Int32), swK K x df lo ts → (∀ j, j < ts.length → ¬ x = lo + Int32.ofNat j) → K df
  | [], _, h, _ => h
  | t0 :: ts, lo, h, hj => by
    have h2 := h.2 (fun q => hj 0 (Nat.succ_pos _) (by rw [q, show Int32.ofNat 0 = 0 from rfl, Int32.add_zero]))
    have e : ∀ j : Nat, lo + 1 + Int32.ofNat j = lo + Int32.ofNat (j + 1) := fun j => by
      rw [Int32.add_assoc]
      congr 1
      show (1 : Int32) + nI j = nI (j + 1)
      rw [nI_succ, Int32.add_comm]
    exact swK_out ts (lo + 1) h2 (fun j hj2 => by rw [e]; exact hj (j + 1) (Nat.succ_lt_succ hj2))
theorem s_tsw {d : TrD} {G : GX} {pc df len : Nat} {dflt9 lo hi : Int} {offs : Array Int} {lo9 : Int32} {ts : List Nat} (hd : decode d.2.1 pc = .ok (.tableswitch dflt9 lo hi offs, len)) (hlo : lo9.toInt = lo) (hb : -1000 ≤ lo ∧ lo ≤ 1000) (hsz : (ts.length : Int) = hi - lo + 1) (hsm : ts.length ≤ 1000) (hts : ∀ k t : Nat, ts[k]? = some t → ∃ off, offs[k]? = some off ∧ (pc : Int) + off = (t : Int)) (hdf : (pc : Int) + dflt9 = (df : Int)) : Snd d G pc (o_tsw lo9 ts df) := by
  intro p l e R s m args below meth c Z D cy ex A n0 ad0 Q C' g K hK L st M b h ad H locs ls h1 h2 h3 h4 h5 h6 h7 hP hD hS hl
  unfold o_tsw at h
  split at h
  · rename_i x st1
    have val : ∀ j : Nat, j < ts.length → (lo9 + Int32.ofNat j).toInt = lo + j := by
      intro j hj
      have hj2 : (Int32.ofNat j).toInt = (j : Int) := nI_toInt (n := j) (by omega)
      rw [Int32.toInt_add, hlo, hj2]
      have : (lo + (j : Int)).bmod (2 ^ 32) = lo + j := by
        rw [Int.bmod_eq_of_le] <;> omega
      exact this
    by_cases hc : x.toInt < lo ∨ hi < x.toInt
    · refine lv_tableOut (tgt := df) C'.1 C'.2.1 hd hc hdf ?_
      have hk := swK_out ts lo9 h (fun j hj q => by
        have := val j hj
        rw [← q] at this
        omega)
      exact hK _ _ _ _ _ hk ad H locs ls h1 h2 h3 h4.tl h5 h6 h7 hP hD hS hl
    · have c1 : ¬ x.toInt < lo := fun q => hc (Or.inl q)
      have c2 : ¬ hi < x.toInt := fun q => hc (Or.inr q)
      obtain ⟨k, hk⟩ : ∃ k : Nat, x.toInt = lo + k := ⟨(x.toInt - lo).toNat, by omega⟩
      have hkl : k < ts.length := by omega
      obtain ⟨off, ho, htg⟩ := hts k _ (List.getElem?_eq_getElem hkl)
      refine lv_tableIn (tgt := ts[k]) (off := off) C'.1 C'.2.1 hd c1 c2 (by rw [show (x.toInt - lo).toNat = k by omega]; exact ho) htg ?_
      have ex9 : x = lo9 + Int32.ofNat k := Int32.toInt_inj.mp (by rw [val k hkl]; exact hk)
      have hK9 := swK_in ts lo9 k _ h (List.getElem?_eq_getElem hkl) (fun j hj q => by
        have a1 := val j (by omega)
        rw [← q] at a1
        omega) ex9
      exact hK _ _ _ _ _ hK9 ad H locs ls h1 h2 h3 h4.tl h5 h6 h7 hP hD hS hl
  · exact h.elim
