/-! ===== triples: what a method does to a world; calls; ends ===== -/
def wsOf (d : TrD) : List Cond := .code d.1 d.2.1 d.2.2.1 d.2.2.2.1 :: WG
abbrev rmOf (d : TrD) (mc ms : Nat) : Room := { frames := d.2.2.2.2.1, cells := mc, slots := ms, locals := d.2.2.2.2.2 }
def TPre (D : va_G) (cy ex ad : Nat → Nat) (sz : Nat) (M : AM) : State → Prop := fun U => U.heap.size = sz ∧ va_P D vwCl (xw cy ad ex M) U.heap ∧ va_K D vwCl (TY cy) U ∧ va_D (fun _ => True) (xw cy ad ex M) ∧ XE ex (va_A (xw cy ad ex M) sz) U U.heap
def TRet (D : va_G) (cy ex ad : Nat → Nat) (M : AM) (A : Nat → Prop) (Q : AQ) : Array Value → State → Outcome → State → Prop := fun _ st oc t =>
  (∃ (ad' : Nat → Nat) (v : Option Value) (M' : AM), oc = .returned (v.map (xv ad' ex)) ∧ Q (.inl v) M' ∧ Agr M.length ad ad' ∧ M.length ≤ M'.length ∧ mcl M' ∧ (∀ w, v = some w → vcl M'.length w) ∧ va_P D vwCl (xw cy ad' ex M') t.heap ∧ va_D A (xw cy ad' ex M')) ∧ va_F A st t
def TThr (D : va_G) (cy ex ad : Nat → Nat) (M : AM) (A : Nat → Prop) (Q : AQ) : String → State → State → Prop := fun E st t =>
  ∃ (ad' : Nat → Nat) (M' : AM), Q (.inr E) M' ∧ Agr M.length ad ad' ∧ M.length ≤ M'.length ∧ mcl M' ∧ va_P D vwCl (xw cy ad' ex M') t.heap ∧ va_D A (xw cy ad' ex M') ∧ va_F A st t
/-- from a world that holds M, with the arguments a, the method d ends as Q says, and makes at most mc cells of ms slots -/
def Tr (d : TrD) (mc ms : Nat) (a : List Value) (M : AM) (Q : AQ) : Prop := mcl M → scl M.length a → ∀ (l : Launch) (D : va_G) (cy ex ad : Nat → Nat) (sz : Nat), l.stackTraces = false →
  vx_Met l d.1 (wsOf d) (rmOf d mc ms) (va_Pc (a.map (xv ad ex)) (TPre D cy ex ad sz M)) (TRet D cy ex ad M (va_A (xw cy ad ex M) sz) Q) (TThr D cy ex ad M (va_A (xw cy ad ex M) sz) Q) mc ms (va_A (xw cy ad ex M) sz)
theorem TPre_blind {D : va_G} {cy ex ad : Nat → Nat} {sz : Nat} {M : AM} {av : List Value} : FrameBlind (va_Pc av (TPre D cy ex ad sz M)) := fun a U g mk q => by
  obtain ⟨q0, q1, q2, q3, q4, q5⟩ := q
  exact ⟨q0, q1, q2, va_K.moved (u := U) (U := U.calling g mk a) (Vm.Alike.refl U.vm) q3, q4, XE.same (u := U) (U := U.calling g mk a) rfl q5⟩
/-! ends -/
def o_iret : WOp := fun _ Q _ st M _ => match st with
  | [.int x] => Q (.inl (some (.int x))) M
  | _ => False
def o_zret : WOp := fun _ Q _ st M _ => match st with
  | [.int x] => x &&& 1 = x ∧ Q (.inl (some (.int x))) M
  | _ => False
def o_lret : WOp := fun _ Q _ st M _ => match st with
  | [.long x] => Q (.inl (some (.long x))) M
  | _ => False
def o_aret : WOp := fun _ Q _ st M _ => match st with
  | [.float x] => Q (.inl (some (.float x))) M
  | _ => False
def o_vret : WOp := fun _ Q _ st M _ => match st with
  | [] => Q (.inl none) M
  | _ => False
theorem s_iret {d : TrD} {G : GX} {pc : Nat} (hr : d.2.2.2.1 = some .int) (hd : decode d.2.1 pc = .ok (.ireturn, 1)) : Snd d G pc o_iret := by
  intro p l e R s m args below meth c Z D cy ex A n0 ad0 Q C g K hK L st M b h
  unfold o_iret at h
  split at h
  · exact C.2.2.2.2.2.2.2.2.2.2.2.2.1 pc L _ M b hd ⟨_, hr, rfl⟩ h
  · exact h.elim
theorem s_zret {d : TrD} {G : GX} {pc : Nat} (hr : d.2.2.2.1 = some .boolean) (hd : decode d.2.1 pc = .ok (.ireturn, 1)) : Snd d G pc o_zret := by
  intro p l e R s m args below meth c Z D cy ex A n0 ad0 Q C g K hK L st M b h
  unfold o_zret at h
  split at h
  · exact C.2.2.2.2.2.2.2.2.2.2.2.2.1 pc L _ M b hd ⟨_, hr, by rw [show narrow .boolean (.int _) = .int (_ &&& 1) from rfl, h.1]⟩ h.2
  · exact h.elim
def o_nret (f : Int32 → Int32) : WOp := fun _ Q _ st M _ => match st with
  | [.int x] => f x = x ∧ Q (.inl (some (.int x))) M
  | _ => False
theorem s_nret {d : TrD} {G : GX} {pc : Nat} {ty : FieldType} {f : Int32 → Int32} (hr : d.2.2.2.1 = some ty) (hf : ∀ x, narrow ty (.int x) = .int (f x)) (hd : decode d.2.1 pc = .ok (.ireturn, 1)) : Snd d G pc (o_nret f) := by
  intro p l e R s m args below meth c Z D cy ex A n0 ad0 Q C g K hK L st M b h
  unfold o_nret at h
  split at h
  · exact C.2.2.2.2.2.2.2.2.2.2.2.2.1 pc L _ M b hd ⟨_, hr, by rw [hf, h.1]⟩ h.2
  · exact h.elim
theorem s_lret {d : TrD} {G : GX} {pc : Nat} (hr : d.2.2.2.1 = some .long) (hd : decode d.2.1 pc = .ok (.lreturn, 1)) : Snd d G pc o_lret := by
  intro p l e R s m args below meth c Z D cy ex A n0 ad0 Q C g K hK L st M b h
  unfold o_lret at h
  split at h
  · exact C.2.2.2.2.2.2.2.2.2.2.2.2.2.1 pc L _ M b hd hr h
  · exact h.elim
theorem s_aret {d : TrD} {G : GX} {pc : Nat} {n : String} (hr : d.2.2.2.1 = some (.object n)) (hd : decode d.2.1 pc = .ok (.areturn, 1)) : Snd d G pc o_aret := by
  intro p l e R s m args below meth c Z D cy ex A n0 ad0 Q C g K hK L st M b h
  unfold o_aret at h
  split at h
  · exact C.2.2.2.2.2.2.2.2.2.2.2.2.2.2.1 pc L _ M b hd ⟨_, hr⟩ h
  · exact h.elim
theorem s_vret {d : TrD} {G : GX} {pc : Nat} (hr : d.2.2.2.1 = none) (hd : decode d.2.1 pc = .ok (.return_, 1)) : Snd d G pc o_vret := by
  intro p l e R s m args below meth c Z D cy ex A n0 ad0 Q C g K hK L st M b h
  unfold o_vret at h
  split at h
  · exact C.2.2.2.2.2.2.2.2.2.2.2.2.2.2.2.1 pc L M b hd hr h
  · exact h.elim
/-- throw new E() -/
def o_throw (E : String) : WOp := fun _ Q _ st M b => match st, Nat.ble 1 b.1, Nat.ble 6 b.2 with
  | [], true, true => Q (.inr E) M
  | _, _, _ => False
def ThrOk (d : TrD) (ik ic : Nat) (E : String) : Prop := Bundle.fit E = true ∧ Cond.classLink d.1.cls ik E ∈ WG ∧ Cond.initialized E ∈ WG ∧ (∀ w ∈ (vx_at0 d.1.cls ic E ["java/lang/RuntimeException", "java/lang/Exception"]).filter goodWord, w ∈ WG) ∧ (∀ w ∈ (vx_at0 d.1.cls ic E ["java/lang/RuntimeException", "java/lang/Exception"]).filter (fun w => !goodWord w), w ∈ Cond.castable E E :: EWd.map Cond.declares) ∧ (E, E) ∈ EWc ∧ (∀ w ∈ Cond.classLink d.1.cls ik E :: Cond.initialized E :: vx_at0 d.1.cls ic E ["java/lang/RuntimeException", "java/lang/Exception"], vx_ot w = true) ∧ 5 < d.2.2.2.2.1 ∧ 81 ≤ d.2.2.2.2.2
theorem s_throw {d : TrD} {G : GX} {pc ik ic : Nat} {E : String} (ok : ThrOk d ik ic E) (d0 : decode d.2.1 pc = .ok (.new ik, 3)) (d3 : decode d.2.1 (pc + 3) = .ok (.dup, 1)) (d4 : decode d.2.1 (pc + 4) = .ok (.invokespecial ic, 3)) (d7 : decode d.2.1 (pc + 7) = .ok (.athrow, 1)) : Snd d G pc (o_throw E) := by
  intro p l e R s m args below meth c Z D cy ex A n0 ad0 Q C g K hK L st M b h
  obtain ⟨k1, k2, k3, k4, k5, k6, k7, k8, k9⟩ := ok
  unfold o_throw at h
  split at h
  · rename_i hb1 hb2
    have hcast : (Cond.castable E E).before args s = true := va_Nw.use rfl ((C.2.2.2.2.2.2.1).2.2.2.2.2.2.2.1 _ k6)
    refine C.2.2.2.2.2.2.2.2.2.2.2.2.2.2.2.2.2 pc ik ic E L M b d0 d3 d4 d7 k1 (C.2.2.2.2.1 _ k2) (C.2.2.2.2.1 _ k3) (vx_hat (B := Cond.castable E E :: EWd.map Cond.declares) (fun w hw => C.2.2.2.2.1 _ (k4 w hw)) k5 (fun w hw => (List.mem_cons.mp hw).elim (fun q => by rw [q]; exact hcast) (fun q => by obtain ⟨x, hx, rfl⟩ := List.mem_map.mp q; exact va_Nw.use rfl ((C.2.2.2.2.2.2.1).2.2.2.2.2.2.2.2.2.2.2.1 x hx)))) k7 ?_ ?_ (Nat.le_of_ble_eq_true hb1) (Nat.le_of_ble_eq_true hb2) h
    · rw [C.2.2.2.2.2.2.2.2.1]; exact k8
    · rw [C.2.2.2.2.2.2.2.2.2.1]; exact k9
  · exact h.elim
/-! calls -/
def rKall (n : Nat) (mc ms : Nat) (K : WK) (Q : AQ) (L : AL) (rest : List Value) (b : AB) : AQ := fun o M' => match o with
  | .inl v => K n L (v.toList ++ rest) M' (b.1 - mc, b.2 - ms)
  | .inr E => Q (.inr E) M'
def o_callV (n ci nargs : Nat) (d' : TrD) (mc ms : Nat) : WOp := fun K Q L st M b => match st.drop nargs with
  | .ref r :: rest => match M[r]? with
    | some (.inr (ci', _)) => match Nat.beq ci' ci, Nat.ble ((rest.map Value.category).sum) 8, Nat.ble mc b.1, Nat.ble ms b.2 with
      | true, true, true, true => Tr d' mc ms (.ref r :: (st.take nargs).reverse) M (rKall n mc ms K Q L rest b)
      | _, _, _, _ => False
    | _ => False
  | _ => False
def o_callS (n nargs : Nat) (d' : TrD) (mc ms : Nat) : WOp := fun K Q L st M b => match Nat.ble nargs st.length, Nat.ble (((st.drop nargs).map Value.category).sum) 8, Nat.ble mc b.1, Nat.ble ms b.2 with
  | true, true, true, true => Tr d' mc ms (st.take nargs).reverse M (rKall n mc ms K Q L (st.drop nargs) b)
  | _, _, _, _ => False
def CallC (d d' : TrD) (nargs : Nat) : Prop := d'.1.cls ≠ "java/lang/invoke/MethodHandle" ∧ d'.1.cls ≠ "java/lang/invoke/VarHandle" ∧ (parseMethodDescriptor d'.1.desc).map (fun d => d.parameters.length) = some nargs ∧ d'.2.2.2.2.1 + 1 ≤ d.2.2.2.2.1 ∧ 8 + (d'.2.2.1 + 11) + d'.2.2.2.2.2 ≤ d.2.2.2.2.2 ∧ Cond.initialized d'.1.cls ∈ WG ∧ Cond.code d'.1 d'.2.1 d'.2.2.1 d'.2.2.2.1 ∈ WG
theorem A1_sub {cy ad ex : Nat → Nat} {M : AM} {A : Nat → Prop} {H0 H : Heap} {locs : List Loc} (hA : ∀ q, H0.size ≤ q → A q) (hD : va_D A (xw cy ad ex M)) (hS : va_S A H0 H locs) : ∀ q, va_A (xw cy ad ex M) H.size q → A q := by
  intro q h
  rcases h with ⟨k, e, h⟩ | h
  · exact hD.2 k (q, e) h
  · exact hA q (Nat.le_trans hS.1 h)
theorem cat_map {ad ex : Nat → Nat} (st : List Value) : ((st.map (xv ad ex)).map fun v => v.category) = st.map Value.category := by
  rw [List.map_map]
  exact List.map_congr_left fun v _ => xv_cat v
/-- behind a call -/
theorem run_on {d : TrD} {p : Program} {l : Launch} {e : Env} {R : Room} {s : State} {m : MethodId} {args : Array Value} {below : List Frame} {meth : Method} {c : Code} {Z : State → Prop} {D : va_G} {cy ex : Nat → Nat} {A : Nat → Prop} {n0 : Nat} {ad0 ad : Nat → Nat} {Q : AQ} {n pc mc ms : Nat} {K : WK} {L : AL} {st rest : List Value} {M : AM} {b : AB} {H : Heap} {locs : List Loc} {ls : Array Slot} {aa : Array Value}
    (C : Cx d p l e R s m args below meth c Z D cy ex A n0 ad0 Q) (hK : ∀ pc L st M b, K pc L st M b → XX p l e R s m args below meth c Z D cy ex A n0 ad0 d.2.2.1 pc L st M b)
    (hn : n = pc + 3) (hmc : mc ≤ b.1) (hms : ms ≤ b.2) (h1 : Agr n0 ad0 ad) (h2 : n0 ≤ M.length) (h3 : mcl M) (h4 : scl M.length rest) (h5 : lcl M.length L) (h6 : b.1 ≤ R.cells) (h7 : b.2 ≤ R.slots) (hP : va_P D vwCl (xw cy ad ex M) H) (hD : va_D A (xw cy ad ex M)) (hS : va_S A s.heap H locs) (hl : lv_has ls d.2.2.1 (xl ad ex L))
    (hr : vx_Run p l e R s m args below meth c H locs (R.cells - b.1) (R.slots - b.2) mc ms (F0 m pc ls (st.map (xv ad ex))) (rest.map (xv ad ex)) (TRet D cy ex ad M (va_A (xw cy ad ex M) H.size) (rKall n mc ms K Q L rest b) aa) (TThr D cy ex ad M (va_A (xw cy ad ex M) H.size) (rKall n mc ms K Q L rest b)) (va_A (xw cy ad ex M) H.size)) :
    W p l e R s m args below meth c H locs (R.cells - b.1) (R.slots - b.2) Z (F0 m pc ls (st.map (xv ad ex))) := by
  subst hn
  have hA1 := A1_sub C.2.2.2.2.2.2.2.1 hD hS
  have ec : R.cells - b.1 + mc = R.cells - (b.1 - mc) := by omega
  have es : R.slots - b.2 + ms = R.slots - (b.2 - ms) := by omega
  intro T hT X
  rcases hr T hT X with ⟨v, st₀, t, T', L9, h0, X', hL, e1, e2, ⟨⟨ad', v', M', hv, hQ, hag, hle, hm, hvc, hP1, hD1⟩, hF⟩, go⟩ | ⟨q, st₀, t, T', L9, E, ce, h0, X', hL, e1, e2, ⟨ad', M', hQ, hag, hle, hm, hP1, hD1, hF⟩, hce, hcv, hcl, go⟩
  · cases hv
    obtain ⟨k1, k2, k3⟩ := vx_keep h0 e1 hS (fun q _ => hA1 q) hA1 hL hF
    have est : (v'.map (xv ad' ex)).toList ++ rest.map (xv ad ex) = (v'.toList ++ rest).map (xv ad' ex) := by
      rw [List.map_append, st_agr hag h4]
      cases v' <;> rfl
    have w := hK _ _ _ _ _ hQ ad' T'.heap (locs ++ L9) ls (h1.tr hag h2) (Nat.le_trans h2 hle) hm (by
      intro w hw
      rcases List.mem_append.mp hw with q | q
      · cases v' with
        | none => cases q
        | some z => rw [List.mem_singleton.mp q]; exact hvc z rfl
      · exact (h4 w q).mono hle) (h5.mono hle) (Nat.le_trans (Nat.sub_le _ _) h6) (Nat.le_trans (Nat.sub_le _ _) h7) (by rw [e1]; exact hP1) (hD1.weaken (fun _ q _ h => hA1 q.1 h)) k3 (xl_agr hag h5 hl)
    rw [← est] at w
    have X2 : Stand p l e R s m args below meth c T' (locs ++ L9) (R.cells - (b.1 - mc)) (R.slots - (b.2 - ms)) := by rw [← ec, ← es]; exact X'
    obtain ⟨t2, a1, b1⟩ := w T' rfl X2
    exact ⟨t2, go t2 a1, b1⟩
  · obtain ⟨k1, k2, k3⟩ := vx_keep h0 e1 hS (fun q _ => hA1 q) hA1 hL hF
    have hq : Q (.inr E) M' := hQ
    have w := C.2.2.2.2.2.2.2.2.2.2.2.2.2.2.2.2.1 pc E ce q T'.heap M' (b.1 - mc, b.2 - ms) ad' ls (rest.map (xv ad ex)) (locs ++ L9) hq (h1.tr hag h2) (Nat.le_trans h2 hle) hm (Nat.le_trans (Nat.sub_le _ _) h6) (Nat.le_trans (Nat.sub_le _ _) h7) (by rw [e1]; exact hP1) (hD1.weaken (fun _ q _ h => hA1 q.1 h)) k3 (by rw [e1]; exact hce) hcv hcl
    have X2 : Stand p l e R s m args below meth c T' (locs ++ L9) (R.cells - (b.1 - mc)) (R.slots - (b.2 - ms)) := by rw [← ec, ← es]; exact X'
    obtain ⟨t2, a1, b1⟩ := w T' rfl X2
    exact ⟨t2, go.trans a1, b1⟩
theorem tpre_at {d : TrD} {p : Program} {l : Launch} {e : Env} {R : Room} {s : State} {m : MethodId} {args : Array Value} {below : List Frame} {meth : Method} {c : Code} {Z : State → Prop} {D : va_G} {cy ex : Nat → Nat} {A : Nat → Prop} {n0 : Nat} {ad0 ad : Nat → Nat} {Q : AQ} {M : AM} {H : Heap} {locs : List Loc}
    (C : Cx d p l e R s m args below meth c Z D cy ex A n0 ad0 Q) (hP : va_P D vwCl (xw cy ad ex M) H) (hD : va_D A (xw cy ad ex M)) (hS : va_S A s.heap H locs) : ∀ U : State, U.heap = H → s.WarmedH U.vm → TPre D cy ex ad H.size M U := by
  intro U hU hW
  have hA1 := A1_sub C.2.2.2.2.2.2.2.1 hD hS
  refine ⟨by rw [hU], by rw [hU]; exact hP, va_K.moved hW.alike C.2.2.2.2.2.1, hD.weaken (fun _ _ _ _ => trivial), ?_⟩
  rw [hU]
  exact XE.warm hW ((C.2.2.2.2.2.2.1.kept hS.2.1).narrow hA1)
theorem take_len {st rest : List Value} {n : Nat} {v : Value} (h : st.drop n = v :: rest) : (st.take n).length = n := by
  have hl : (st.drop n).length = rest.length + 1 := by rw [h]; rfl
  rw [List.length_drop] at hl
  rw [List.length_take]
  omega
theorem s_callV {d d' : TrD} {G : GX} {pc ix ci nargs mc ms : Nat} {T : u_T} {N : Nat} {ty : Nat → FieldType} (ok : ClOk ci d'.1.cls T N ty) (cc : CallC d d' nargs) (hw1 : Cond.methodLink d.1.cls ix d'.1 ∈ WG) (hw2 : Cond.instanceMethod d'.1 ∈ WG) (hw3 : Cond.selects d'.1.cls d'.1 d'.1 ∈ WG) (hd : decode d.2.1 pc = .ok (.invokevirtual ix, 3)) : Snd d G pc (o_callV (pc + 3) ci nargs d' mc ms) := by
  intro p l e R s m args below meth c Z D cy ex A n0 ad0 Q C g K hK L st M b h ad H locs ls h1 h2 h3 h4 h5 h6 h7 hP hD hS hl
  unfold o_callV at h
  split at h
  · rename_i r rest hst
    split at h
    · rename_i ci' fs hM
      split at h
      · rename_i hb hcat hmc hms
        cases Nat.eq_of_beq_eq_true hb
        have hmc := Nat.le_of_ble_eq_true hmc
        have hms := Nat.le_of_ble_eq_true hms
        have hrest : scl M.length (.ref r :: rest) := fun w hw => h4 w (List.mem_of_mem_drop (hst ▸ hw))
        have hargs : scl M.length (.ref r :: (st.take nargs).reverse) := scl.cons hrest.hd (fun w hw => h4 w (List.mem_of_mem_take (List.mem_reverse.mp hw)))
        have hT := h h3 hargs l D cy ex ad H.size C.2.2.2.2.2.2.2.2.2.2.2.1
        obtain ⟨c1, c2, c3, c4, c5, c6, c7⟩ := cc
        have hq := xw_at (cy := cy) (ad := ad) (ex := ex) hM
        have hgood : GoodIn WG (wsV d.1.cls ix d'.1.cls d'.1 (wsOf d')) := WG_in (by
          intro w hw
          simp only [wsV, wsOf, List.cons_append, List.nil_append, List.mem_cons] at hw
          rcases hw with rfl | rfl | rfl | rfl | rfl | hw
          · exact hw1
          · exact hw2
          · exact hw3
          · exact c6
          · exact c7
          · exact hw)
        have hr := vx_runV (e := e) (below := below) (meth := meth) (b := ad r) (As := ((st.take nargs).reverse).map (xv ad ex)) (rest := rest.map (xv ad ex)) (locs := locs) (cells := R.cells - b.1) (slots := R.slots - b.2) (g := F0 m pc ls (st.map (xv ad ex))) ⟨C.1, C.2.1, C.2.2.1, C.2.2.2.1, C.2.2.2.2.1⟩ hT (cwV nargs C.2.2.2.2.1 hgood rfl rfl rfl ⟨rfl, c1, c2, c3⟩ ⟨by rw [C.2.2.2.2.2.2.2.2.1]; exact c4, by rw [C.2.2.2.2.2.2.2.2.2.1]; exact c5⟩) ⟨TPre_blind, va_recv C.2.2.2.2.2.1 hP ok.1 hq, fun U hU hW => ⟨rfl, tpre_at C hP hD hS U hU hW⟩⟩ rfl (by rw [List.length_map, List.length_reverse, take_len hst]) hl.1 (by
            show st.map (xv ad ex) = _
            rw [← List.map_reverse, List.reverse_reverse, ← List.take_append_drop nargs st, List.map_append, List.take_append_drop, hst]
            rfl) (lv_room (by rw [cat_map]; exact Nat.le_of_ble_eq_true hcat)) hd ⟨by omega, by omega⟩
        exact run_on C hK rfl hmc hms h1 h2 h3 hrest.tl h5 h6 h7 hP hD hS hl hr
      · exact h.elim
    · exact h.elim
  · exact h.elim
theorem s_callS {d d' : TrD} {G : GX} {pc ix nargs mc ms : Nat} (cc : CallC d d' nargs) (hw1 : Cond.methodLink d.1.cls ix d'.1 ∈ WG) (hw2 : Cond.static d'.1 ∈ WG) (hd : decode d.2.1 pc = .ok (.invokestatic ix, 3)) : Snd d G pc (o_callS (pc + 3) nargs d' mc ms) := by
  intro p l e R s m args below meth c Z D cy ex A n0 ad0 Q C g K hK L st M b h ad H locs ls h1 h2 h3 h4 h5 h6 h7 hP hD hS hl
  unfold o_callS at h
  split at h
  · rename_i hlen hcat hmc hms
    have hmc := Nat.le_of_ble_eq_true hmc
    have hms := Nat.le_of_ble_eq_true hms
    have hlen := Nat.le_of_ble_eq_true hlen
    have hrest : scl M.length (st.drop nargs) := fun w hw => h4 w (List.mem_of_mem_drop hw)
    have hargs : scl M.length ((st.take nargs).reverse) := fun w hw => h4 w (List.mem_of_mem_take (List.mem_reverse.mp hw))
    have hT := h h3 hargs l D cy ex ad H.size C.2.2.2.2.2.2.2.2.2.2.2.1
    obtain ⟨c1, c2, c3, c4, c5, c6, c7⟩ := cc
    have hgood : GoodIn WG (va_wsS d.1.cls ix d'.1 (wsOf d')) := WG_in (by
      intro w hw
      simp only [va_wsS, wsOf, List.cons_append, List.nil_append, List.mem_cons] at hw
      rcases hw with rfl | rfl | rfl | rfl | hw
      · exact hw1
      · exact hw2
      · exact c6
      · exact c7
      · exact hw)
    have hr := vx_runS (e := e) (below := below) (meth := meth) (As := ((st.take nargs).reverse).map (xv ad ex)) (rest := (st.drop nargs).map (xv ad ex)) (locs := locs) (cells := R.cells - b.1) (slots := R.slots - b.2) (g := F0 m pc ls (st.map (xv ad ex))) ⟨C.1, C.2.1, C.2.2.1, C.2.2.2.1, C.2.2.2.2.1⟩ hT (va_cwS nargs C.2.2.2.2.1 hgood rfl rfl rfl ⟨c1, c2, c3⟩ ⟨by rw [C.2.2.2.2.2.2.2.2.1]; exact c4, by rw [C.2.2.2.2.2.2.2.2.2.1]; exact c5⟩) ⟨TPre_blind, fun U hU hW => ⟨rfl, tpre_at C hP hD hS U hU hW⟩⟩ rfl (by rw [List.length_map, List.length_reverse, List.length_take]; omega) hl.1 (by
        show st.map (xv ad ex) = _
        rw [← List.map_reverse, List.reverse_reverse, ← List.map_append, List.take_append_drop]) (lv_room (by rw [cat_map]; exact Nat.le_of_ble_eq_true hcat)) hd ⟨by omega, by omega⟩
    exact run_on C hK rfl hmc hms h1 h2 h3 hrest h5 h6 h7 hP hD hS hl hr
  · exact h.elim
