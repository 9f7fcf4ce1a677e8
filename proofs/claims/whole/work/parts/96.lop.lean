/-! ===== the law's own ops: its script, and calls of its helpers ===== -/
/-- what the law knows of its script -/
def GL (b Ls : Nat) (xs : Nat → Int32) : GX := fun ex A s => ex 23 = b ∧ va_X b Ls xs s s.heap ∧ b < s.heap.size ∧ ¬ A b
def o_slen (n Ls : Nat) : WOp := fun K Q L st M b => match st with
  | .float u :: st1 => match Nat.beq u.toNat 23 with
    | true => K n L (.int (Int32.ofNat Ls) :: st1) M b
    | false => False
  | _ => False
theorem s_slen {d : TrD} {pc bb Ls : Nat} {xs : Nat → Int32} (hd : decode d.2.1 pc = .ok (.arraylength, 1)) : Snd d (GL bb Ls xs) pc (o_slen (pc + 1) Ls) := by
  intro p l e R s m args below meth c Z D cy ex A n0 ad0 Q C g K hK L st M b h ad H locs ls h1 h2 h3 h4 h5 h6 h7 hP hD hS hl
  unfold o_slen at h
  split at h
  · rename_i u st1
    split at h
    · rename_i hu
      have hu := Nat.eq_of_beq_eq_true hu
      obtain ⟨g1, g2, g3, g4⟩ := g
      show W p l e R s m args below meth c H locs _ _ Z (F0 m pc ls (.ref (ex u.toNat) :: st1.map (xv ad ex)))
      rw [hu, g1]
      refine va_slen C.1 C.2.1 g2 g3 g4 hS hd ?_
      exact hK _ _ _ _ _ h ad H locs ls h1 h2 h3 (scl.cons trivial h4.tl) h5 h6 h7 hP hD hS hl
    · exact h.elim
  · exact h.elim
def o_sald (n Ls : Nat) (xs : Nat → Int32) : WOp := fun K Q L st M b => match st with
  | .int j :: .float u :: st1 => match Nat.beq u.toNat 23 with
    | true => vp_in j Ls ∧ K n L (.int (xs j.toNatClampNeg) :: st1) M b
    | false => False
  | _ => False
theorem s_sald {d : TrD} {pc bb Ls : Nat} {xs : Nat → Int32} (hd : decode d.2.1 pc = .ok (.iaload, 1)) : Snd d (GL bb Ls xs) pc (o_sald (pc + 1) Ls xs) := by
  intro p l e R s m args below meth c Z D cy ex A n0 ad0 Q C g K hK L st M b h ad H locs ls h1 h2 h3 h4 h5 h6 h7 hP hD hS hl
  unfold o_sald at h
  split at h
  · rename_i j u st1
    split at h
    · rename_i hu
      have hu := Nat.eq_of_beq_eq_true hu
      obtain ⟨g1, g2, g3, g4⟩ := g
      show W p l e R s m args below meth c H locs _ _ Z (F0 m pc ls (.int j :: .ref (ex u.toNat) :: st1.map (xv ad ex)))
      rw [hu, g1]
      refine va_sld C.1 C.2.1 g2 g3 g4 hS h.1 hd ?_
      exact hK _ _ _ _ _ h.2 ad H locs ls h1 h2 h3 (scl.cons trivial h4.tl.tl) h5 h6 h7 hP hD hS hl
    · exact h.elim
  · exact h.elim
def o_callSW (n nargs : Nat) (d' : TrD) (hh : HH) (mc ms : Nat) : WOp := fun K Q L st M b => match Nat.ble nargs st.length, Nat.ble (((st.drop nargs).map Value.category).sum) 8, Nat.ble mc b.1, Nat.ble ms b.2 with
  | true, true, true, true => TrH d' hh mc ms (st.take nargs).reverse M (rKi n mc ms K L (st.drop nargs) b)
  | _, _, _, _ => False
def CallH (d d' : TrD) (hh : HH) (nargs : Nat) : Prop := d'.1.cls ≠ "java/lang/invoke/MethodHandle" ∧ d'.1.cls ≠ "java/lang/invoke/VarHandle" ∧ (parseMethodDescriptor d'.1.desc).map (fun d => d.parameters.length) = some nargs ∧ d'.2.2.2.2.1 + 1 ≤ d.2.2.2.2.1 ∧ 8 + (d'.2.2.1 + 11) + d'.2.2.2.2.2 ≤ d.2.2.2.2.2 ∧ Cond.initialized d'.1.cls ∈ WG ∧ Cond.codeWith d'.1 d'.2.1 d'.2.2.1 d'.2.2.2.1 hh ∈ WG
theorem s_callSW {d d' : TrD} {hh : HH} {G : GX} {pc ix nargs mc ms : Nat} (cc : CallH d d' hh nargs) (hw1 : Cond.methodLink d.1.cls ix d'.1 ∈ WG) (hw2 : Cond.static d'.1 ∈ WG) (hd : decode d.2.1 pc = .ok (.invokestatic ix, 3)) : Snd d G pc (o_callSW (pc + 3) nargs d' hh mc ms) := by
  intro p l e R s m args below meth c Z D cy ex A n0 ad0 Q C g K hK L st M b h ad H locs ls h1 h2 h3 h4 h5 h6 h7 hP hD hS hl
  unfold o_callSW at h
  split at h
  · rename_i hlen hcat hmc hms
    have hmc := Nat.le_of_ble_eq_true hmc
    have hms := Nat.le_of_ble_eq_true hms
    have hlen := Nat.le_of_ble_eq_true hlen
    have hrest : scl M.length (st.drop nargs) := fun w hw => h4 w (List.mem_of_mem_drop hw)
    have hargs : scl M.length ((st.take nargs).reverse) := fun w hw => h4 w (List.mem_of_mem_take (List.mem_reverse.mp hw))
    have hT := h h3 hargs l D cy ex ad H.size C.2.2.2.2.2.2.2.2.2.2.2.1
    have hMt : Met l d'.1 (wsH d' hh) (rmOf d' mc ms) (va_Pc (((st.take nargs).reverse).map (xv ad ex)) (TPre D cy ex ad H.size M)) (TRet D cy ex ad M (va_A (xw cy ad ex M) H.size) (rKall (pc + 3) mc ms K Q L (st.drop nargs) b)) mc ms (va_A (xw cy ad ex M) H.size) := by
      refine met_of hT ?_ (fun _ _ _ q => q)
      rintro a s9 o t ⟨⟨ad', v, M', q1, q2, q3⟩, hF⟩
      exact ⟨⟨ad', v, M', q1, q2, q3⟩, hF⟩
    obtain ⟨c1, c2, c3, c4, c5, c6, c7⟩ := cc
    have hgood : GoodIn WG (va_wsS d.1.cls ix d'.1 (wsH d' hh)) := WG_in (by
      intro w hw
      simp only [va_wsS, wsH, List.cons_append, List.nil_append, List.mem_cons] at hw
      rcases hw with rfl | rfl | rfl | rfl | hw
      · exact hw1
      · exact hw2
      · exact c6
      · exact c7
      · exact hw)
    have hrun : va_Run p l e R s m args below meth c H locs (R.cells - b.1) (R.slots - b.2) mc ms (F0 m pc ls (st.map (xv ad ex))) ((st.drop nargs).map (xv ad ex)) (TRet D cy ex ad M (va_A (xw cy ad ex M) H.size) (rKall (pc + 3) mc ms K Q L (st.drop nargs) b) (((st.take nargs).reverse).map (xv ad ex)).toArray) (va_A (xw cy ad ex M) H.size) :=
      vx_runSW (e := e) (below := below) (meth := meth) (As := ((st.take nargs).reverse).map (xv ad ex)) (rest := (st.drop nargs).map (xv ad ex)) (locs := locs) (cells := R.cells - b.1) (slots := R.slots - b.2) (g := F0 m pc ls (st.map (xv ad ex))) ⟨C.1, C.2.1, C.2.2.1, C.2.2.2.1, C.2.2.2.2.1⟩ hMt (vx_cwSW nargs C.2.2.2.2.1 hgood rfl rfl rfl ⟨c1, c2, c3⟩ ⟨by rw [C.2.2.2.2.2.2.2.2.1]; exact c4, by rw [C.2.2.2.2.2.2.2.2.2.1]; exact c5⟩) ⟨TPre_blind, fun U hU hW => ⟨rfl, tpre_at C hP hD hS U hU hW⟩⟩ rfl (by rw [List.length_map, List.length_reverse, List.length_take]; omega) hl.1 (by
        show st.map (xv ad ex) = _
        rw [← List.map_reverse, List.reverse_reverse, ← List.map_append, List.take_append_drop]) (lv_room (by rw [cat_map]; exact Nat.le_of_ble_eq_true hcat)) hd ⟨by omega, by omega⟩
    exact run_on C hK rfl hmc hms h1 h2 h3 hrest h5 h6 h7 hP hD hS hl (fun T hT9 X => Or.inl (hrun T hT9 X))
  · exact h.elim
