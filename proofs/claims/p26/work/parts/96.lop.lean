/-! ===== the law's own ops: constants, its script, and calls of its helpers ===== -/
theorem s_ldc {d : TrD} {G : GX} {pc : Nat} {ix : Nat} {v : Int32} (hd : decode d.2.1 pc = .ok (.ldc ix, 2)) (hw : Cond.constant d.1.cls ix v ∈ WG) : Snd d G pc (o_push (pc + 2) v) := by
  intro p l e R s m args below meth c Z D cy ex A n0 ad0 Q C g K hK L st M b h ad H locs ls h1 h2 h3 h4 h5 h6 h7 hP hD hS hl
  refine lv_ldc C.1 C.2.1 C.2.2.2.1 (C.2.2.2.2.1 _ hw) hd ?_
  exact hK _ _ _ _ _ h ad H locs ls h1 h2 h3 (scl.cons trivial h4) h5 h6 h7 hP hD hS hl
def o_ixor (n : Nat) : WOp := fun K Q L st M b => match st with
  | .int y :: .int x :: st1 => K n L (.int (x ^^^ y) :: st1) M b
  | _ => False
theorem s_o_ixor {d : TrD} {G : GX} {pc : Nat} (hd : decode d.2.1 pc = .ok (.ixor, 1)) : Snd d G pc (o_ixor (pc + 1)) := by
  intro p l e R s m args below meth c Z D cy ex A n0 ad0 Q C g K hK L st M b h ad H locs ls h1 h2 h3 h4 h5 h6 h7 hP hD hS hl
  unfold o_ixor at h
  split at h
  · refine lv_ixor C.1 C.2.1 hd ?_
    exact hK _ _ _ _ _ h ad H locs ls h1 h2 h3 (scl.cons trivial h4.tl.tl) h5 h6 h7 hP hD hS hl
  · exact h.elim
/-- the script's place, or the number behind it -/
def o_cell : WOp := fun K Q L st M b => match L, st with
  | [some (.float u), some (.int k)], [] => match Nat.beq u.toNat 23 with
    | true => 0 ≤ k.toInt ∧ (∀ x : Int32, K 18 L [.int x] M b) ∧ K 12 L [] M b
    | false => False
  | _, _ => False
theorem s_cell {d : TrD} {G : GX} (d0 : decode d.2.1 0 = .ok (.iload_n 1, 1)) (d1 : decode d.2.1 1 = .ok (.aload_n 0, 1)) (d2 : decode d.2.1 2 = .ok (.arraylength, 1)) (d3 : decode d.2.1 3 = .ok (.if_icmp .ge 9, 3)) (d6 : decode d.2.1 6 = .ok (.aload_n 0, 1)) (d7 : decode d.2.1 7 = .ok (.iload_n 1, 1)) (d8 : decode d.2.1 8 = .ok (.iaload, 1)) (d9 : decode d.2.1 9 = .ok (.goto 9, 3)) : Snd d G 0 o_cell := by
  intro p l e R s m args below meth c Z D cy ex A n0 ad0 Q C g K hK L st M b h ad H locs ls h1 h2 h3 h4 h5 h6 h7 hP hD hS hl
  unfold o_cell at h
  split at h
  · rename_i u k
    split at h
    · rename_i hu
      have hu := Nat.eq_of_beq_eq_true hu
      obtain ⟨g0, g1, g2⟩ := h
      obtain ⟨N, f, hN, hT⟩ := C.2.2.2.2.2.2.1.2.2.2.2.2.2.2.2.2.2.2.2
      have hT' : va_T .int (ex u.toNat) N (fun j => .int (f j)) A s s.heap := by rw [hu]; exact hT
      refine lv_iload_n C.1 C.2.1 d0 (k := 1) (i := 1) rfl (xl_at hl (i := 1) (v := .int k) rfl) ?_
      refine lv_aload_n C.1 C.2.1 d1 (k := 0) (i := 0) rfl (xl_at hl (i := 0) (v := .float u) rfl) ?_
      refine va_tlen (t := ex u.toNat) C.1 C.2.1 hT' hS rfl d2 ?_
      refine lv_icmp_ge C.1 C.2.1 d3 (by decide : ((3 : Nat) : Int) + 9 = ((12 : Nat) : Int)) (fun q => ?_) (fun q => ?_)
      · exact hK _ _ _ _ _ g2 ad H locs ls h1 h2 h3 (fun _ hw => nomatch hw) h5 h6 h7 hP hD hS hl
      · refine lv_aload_n C.1 C.2.1 d6 (k := 0) (i := 0) rfl (xl_at hl (i := 0) (v := .float u) rfl) ?_
        refine lv_iload_n C.1 C.2.1 d7 (k := 1) (i := 1) rfl (xl_at hl (i := 1) (v := .int k) rfl) ?_
        have q1 : k < Int32.ofNat N := Int32.not_le.mp q
        have q2 := Int32.lt_iff_toInt_lt.mp q1
        rw [show (Int32.ofNat N).toInt = (N : Int) from nI_toInt (n := N) (by omega)] at q2
        have hkn : k.toNatClampNeg = k.toInt.toNat := rfl
        have hin : vp_in k N := by
          intro z
          rcases z with z | z
          · have := Int32.lt_iff_toInt_lt.mp z
            have e0 : ((0 : Int32).toInt) = 0 := by decide
            omega
          · omega
        refine va_ti (t := ex u.toNat) C.1 C.2.1 hT' hS hin rfl d8 ?_
        refine lv_goto C.1 C.2.1 d9 (by decide : ((9 : Nat) : Int) + 9 = ((18 : Nat) : Int)) ?_
        exact hK _ _ _ _ _ (g1 _) ad H locs ls h1 h2 h3 (scl.cons trivial (fun _ hw => nomatch hw)) h5 h6 h7 hP hD hS hl
    · exact h.elim
  · exact h.elim
def o_callSW (n nargs : Nat) (d' : TrD) (hh : HH) (mc ms : Nat) : WOp := fun K Q L st M b => match Nat.ble nargs st.length, Nat.ble (((st.drop nargs).map Value.category).sum) 8, Nat.ble mc b.1, Nat.ble ms b.2 with
  | true, true, true, true => TrH d' hh mc ms (st.take nargs).reverse M (rKi n mc ms K L (st.drop nargs) b)
  | _, _, _, _ => False
def CallH (d d' : TrD) (hh : HH) (nargs : Nat) : Prop := d'.1.cls ≠ "java/lang/invoke/MethodHandle" ∧ d'.1.cls ≠ "java/lang/invoke/VarHandle" ∧ (parseMethodDescriptor d'.1.desc).map (fun d => d.parameters.length) = some nargs ∧ d'.2.2.2.2.1 + 1 ≤ d.2.2.2.2.1 ∧ 8 + (d'.2.2.1 + 11) + d'.2.2.2.2.2 ≤ d.2.2.2.2.2 ∧ Cond.initialized d'.1.cls ∈ WG ∧ Cond.codeWith d'.1 d'.2.1 d'.2.2.1 d'.2.2.2.1 hh ∈ WG
theorem s_callSW {d d' : TrD} {hh : HH} {G : GX} {pc ix nargs mc ms : Nat} (cc : CallH d d' hh nargs) (hw1 : Cond.methodLink d.1.cls ix d'.1 ∈ WG) (hw2 : Cond.static d'.1 ∈ WG) (hd : decode d.2.1 pc = .ok (.invokestatic ix, 3)) : Snd d G pc (o_callSW (pc + 3) nargs d' hh mc ms) := by
  intro p l e R s m args below meth c Z D cy ex A n0 ad0 Q C g K hK L st M b h ad H locs ls h1 h2 h3 h4 h5 h6 h7 hP hD hS hl
  unfold o_callSW at h
  split at h
  · rename_i hlen hcat hmc hms
    have hmc := Nat.le_of_ble_eq_true hmc
    have hms := Nat.le_of_ble_eq_true hms
    have hlen := Nat.le_of_ble_eq_true hlen
    have hrest : scl M.length (st.drop nargs) := fun w hw => h4 w (List.mem_of_mem_drop hw)
    have hargs : scl M.length ((st.take nargs).reverse) := fun w hw => h4 w (List.mem_of_mem_take (List.mem_reverse.mp hw))
    have hT := h h3 hargs l D cy ex ad H.size C.2.2.2.2.2.2.2.2.2.2.2.1
    have hMt : Met l d'.1 (wsH d' hh) (rmOf d' mc ms) (va_Pc (((st.take nargs).reverse).map (xv ad ex)) (TPre D cy ex ad H.size M)) (TRet D cy ex ad M (va_A (xw cy ad ex M) H.size) (rKall (pc + 3) mc ms K Q L (st.drop nargs) b)) mc ms (va_A (xw cy ad ex M) H.size) := by
      refine met_of hT ?_ (fun _ _ _ q => q)
      rintro a s9 o t ⟨⟨ad', v, M', q1, q2, q3⟩, hF⟩
      exact ⟨⟨ad', v, M', q1, q2, q3⟩, hF⟩
    obtain ⟨c1, c2, c3, c4, c5, c6, c7⟩ := cc
    have hgood : GoodIn WG (va_wsS d.1.cls ix d'.1 (wsH d' hh)) := WG_in (by
      intro w hw
      simp only [va_wsS, wsH, List.cons_append, List.nil_append, List.mem_cons] at hw
      rcases hw with rfl | rfl | rfl | rfl | hw
      · exact hw1
      · exact hw2
      · exact c6
      · exact c7
      · exact hw)
    have hrun : va_Run p l e R s m args below meth c H locs (R.cells - b.1) (R.slots - b.2) mc ms (F0 m pc ls (st.map (xv ad ex))) ((st.drop nargs).map (xv ad ex)) (TRet D cy ex ad M (va_A (xw cy ad ex M) H.size) (rKall (pc + 3) mc ms K Q L (st.drop nargs) b) (((st.take nargs).reverse).map (xv ad ex)).toArray) (va_A (xw cy ad ex M) H.size) :=
      vx_runSW (e := e) (below := below) (meth := meth) (As := ((st.take nargs).reverse).map (xv ad ex)) (rest := (st.drop nargs).map (xv ad ex)) (locs := locs) (cells := R.cells - b.1) (slots := R.slots - b.2) (g := F0 m pc ls (st.map (xv ad ex))) ⟨C.1, C.2.1, C.2.2.1, C.2.2.2.1, C.2.2.2.2.1⟩ hMt (vx_cwSW nargs C.2.2.2.2.1 hgood rfl rfl rfl ⟨c1, c2, c3⟩ ⟨by rw [C.2.2.2.2.2.2.2.2.1]; exact c4, by rw [C.2.2.2.2.2.2.2.2.2.1]; exact c5⟩) ⟨TPre_blind, fun U hU hW => ⟨rfl, tpre_at C hP hD hS U hU hW⟩⟩ rfl (by rw [List.length_map, List.length_reverse, List.length_take]; omega) hl.1 (by
        show st.map (xv ad ex) = _
        rw [← List.map_reverse, List.reverse_reverse, ← List.map_append, List.take_append_drop]) (lv_room (by rw [cat_map]; exact Nat.le_of_ble_eq_true hcat)) hd ⟨by omega, by omega⟩
    exact run_on C hK rfl hmc hms h1 h2 h3 hrest h5 h6 h7 hP hD hS hl (fun T hT9 X => Or.inl (hrun T hT9 X))
  · exact h.elim
