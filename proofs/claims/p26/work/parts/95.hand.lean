/-! ===== methods that catch ===== -/
variable {mc ms : Nat}
abbrev HH : Type := List (Nat × Nat × Nat × Nat)
def wsH (d : TrD) (hh : HH) : List Cond := .codeWith d.1 d.2.1 d.2.2.1 d.2.2.2.1 hh :: WG
def TrH (d : TrD) (hh : HH) (mc ms : Nat) (a : List Value) (M : AM) (Q : AQ) : Prop := mcl M → scl M.length a → ∀ (l : Launch) (D : va_G) (cy ex ad : Nat → Nat) (sz : Nat), l.stackTraces = false →
  vx_Met l d.1 (wsH d hh) (rmOf d mc ms) (va_Pc (a.map (xv ad ex)) (TPre D cy ex ad sz M)) (TRet D cy ex ad M (va_A (xw cy ad ex M) sz) Q) (fun _ _ _ => False) mc ms (va_A (xw cy ad ex M) sz)
/-- one row of the table that catches E at pc and answers k -/
def HOk (d : TrD) (hh : HH) (pc : Nat) (E : String) (k : Int32) : Prop :=
  ∃ (pre : HH) (h : Nat × Nat × Nat × Nat) (suf : HH) (kk : Nat), hh = pre ++ h :: suf ∧ (∀ z ∈ pre, z.2.2.2 ≠ 0 ∧ ∃ nm : String, Cond.classLink d.1.cls z.2.2.2 nm ∈ WG ∧ (E, nm) ∈ ENc) ∧ covers ⟨h.1, h.2.1, h.2.2.1, h.2.2.2⟩ pc = true ∧ h.2.2.2 ≠ 0 ∧ Cond.classLink d.1.cls h.2.2.2 E ∈ WG ∧ (E, E) ∈ EWc ∧ Cond.constant d.1.cls kk k ∈ WG ∧
    ((∃ (j : Fin 4), decode d.2.1 h.2.2.1 = .ok (.astore_n j, 1) ∧ (j : Nat) < d.2.2.1 ∧ decode d.2.1 (h.2.2.1 + 1) = .ok (.ldc kk, 2) ∧ decode d.2.1 (h.2.2.1 + 1 + 2) = .ok (.ireturn, 1)) ∨
     (∃ (j : Nat), decode d.2.1 h.2.2.1 = .ok (.astore j, 2) ∧ j < d.2.2.1 ∧ decode d.2.1 (h.2.2.1 + 2) = .ok (.ldc kk, 2) ∧ decode d.2.1 (h.2.2.1 + 2 + 2) = .ok (.ireturn, 1)))
abbrev HOp : Type := WK → AQ → AL → List Value → AM → AB → Prop
def SndH (d : TrD) (hh : HH) (pc : Nat) (op : HOp) : Prop :=
  ∀ (p : Program) (l : Launch) (e : Env) (R : Room) (s : State) (m : MethodId) (args : Array Value) (below : List Frame) (meth : Method) (c : Code) (Z : State → Prop) (D : va_G) (cy ex : Nat → Nat) (A : Nat → Prop) (n0 : Nat) (ad0 : Nat → Nat) (Q : AQ), Cx d p l e R s m args below meth c Z D cy ex A n0 ad0 Q → c.exceptionTable.toList = tableOf hh →
    ∀ K : WK, (∀ pc L st M b, K pc L st M b → XX p l e R s m args below meth c Z D cy ex A n0 ad0 d.2.2.1 pc L st M b) → ∀ (L : AL) (st : List Value) (M : AM) (b : AB), op K Q L st M b → XX p l e R s m args below meth c Z D cy ex A n0 ad0 d.2.2.1 pc L st M b
def rKT (n : Nat) (mc ms : Nat) (hl : List (String × Int32)) (K : WK) (Q : AQ) (L : AL) (rest : List Value) (b : AB) : AQ := fun o M' => match o with
  | .inl v => K n L (v.toList ++ rest) M' (b.1 - mc, b.2 - ms)
  | .inr E => ∃ k, (E, k) ∈ hl ∧ Q (.inl (some (.int k))) M'
def o_callVT (n ci nargs : Nat) (d' : TrD) (mc ms : Nat) (hl : List (String × Int32)) : HOp := fun K Q L st M b => match st.drop nargs with
  | .ref r :: rest => match M[r]? with
    | some (.inr (ci', _)) => match Nat.beq ci' ci, Nat.ble ((rest.map Value.category).sum) 8, Nat.ble mc b.1, Nat.ble ms b.2 with
      | true, true, true, true => Tr d' mc ms (.ref r :: (st.take nargs).reverse) M (rKT n mc ms hl K Q L rest b)
      | _, _, _, _ => False
    | _ => False
  | _ => False
/-- behind a call under a handler -/
theorem run_onT {d : TrD} {p : Program} {l : Launch} {e : Env} {R : Room} {s : State} {m : MethodId} {args : Array Value} {below : List Frame} {meth : Method} {c : Code} {Z : State → Prop} {D : va_G} {cy ex : Nat → Nat} {A : Nat → Prop} {n0 : Nat} {ad0 ad : Nat → Nat} {Q : AQ} {n pc mc ms : Nat} {K : WK} {L : AL} {st rest : List Value} {M : AM} {b : AB} {H : Heap} {locs : List Loc} {ls : Array Slot} {aa : Array Value} {hl : List (String × Int32)} {hh : HH}
    (C : Cx d p l e R s m args below meth c Z D cy ex A n0 ad0 Q) (hT9 : c.exceptionTable.toList = tableOf hh) (hr0 : d.2.2.2.1 = some .int) (hH : ∀ E k, (E, k) ∈ hl → HOk d hh pc E k) (hK : ∀ pc L st M b, K pc L st M b → XX p l e R s m args below meth c Z D cy ex A n0 ad0 d.2.2.1 pc L st M b)
    (hn : n = pc + 3) (hmc : mc ≤ b.1) (hms : ms ≤ b.2) (h1 : Agr n0 ad0 ad) (h2 : n0 ≤ M.length) (h3 : mcl M) (h4 : scl M.length rest) (h5 : lcl M.length L) (h6 : b.1 ≤ R.cells) (h7 : b.2 ≤ R.slots) (hP : va_P D vwCl (xw cy ad ex M) H) (hD : va_D A (xw cy ad ex M)) (hS : va_S A s.heap H locs) (hl9 : lv_has ls d.2.2.1 (xl ad ex L))
    (hr : vx_Run p l e R s m args below meth c H locs (R.cells - b.1) (R.slots - b.2) mc ms (F0 m pc ls (st.map (xv ad ex))) (rest.map (xv ad ex)) (TRet D cy ex ad M (va_A (xw cy ad ex M) H.size) (rKT n mc ms hl K Q L rest b) aa) (TThr D cy ex ad M (va_A (xw cy ad ex M) H.size) (rKT n mc ms hl K Q L rest b)) (va_A (xw cy ad ex M) H.size)) :
    W p l e R s m args below meth c H locs (R.cells - b.1) (R.slots - b.2) Z (F0 m pc ls (st.map (xv ad ex))) := by
  subst hn
  have hA1 := A1_sub C.2.2.2.2.2.2.2.1 hD hS
  have ec : R.cells - b.1 + mc = R.cells - (b.1 - mc) := by omega
  have es : R.slots - b.2 + ms = R.slots - (b.2 - ms) := by omega
  intro T hT X
  rcases hr T hT X with ⟨v, st₀, t, T', L9, h0, X', hL, e1, e2, ⟨⟨ad', v', M', hv, hQ, hag, hle, hm, hvc, hP1, hD1⟩, hF⟩, go⟩ | ⟨q, st₀, t, T', L9, E, ce, h0, X', hL, e1, e2, ⟨ad', M', hQ, hag, hle, hm, hP1, hD1, hF⟩, hce, hcv, hcl, go⟩
  · cases hv
    obtain ⟨k1, k2, k3⟩ := vx_keep h0 e1 hS (fun q _ => hA1 q) hA1 hL hF
    have est : (v'.map (xv ad' ex)).toList ++ rest.map (xv ad ex) = (v'.toList ++ rest).map (xv ad' ex) := by
      rw [List.map_append, st_agr hag h4]
      cases v' <;> rfl
    have w := hK _ _ _ _ _ hQ ad' T'.heap (locs ++ L9) ls (h1.tr hag h2) (Nat.le_trans h2 hle) hm (by
      intro w hw
      rcases List.mem_append.mp hw with q | q
      · cases v' with
        | none => cases q
        | some z => rw [List.mem_singleton.mp q]; exact hvc z rfl
      · exact (h4 w q).mono hle) (h5.mono hle) (Nat.le_trans (Nat.sub_le _ _) h6) (Nat.le_trans (Nat.sub_le _ _) h7) (by rw [e1]; exact hP1) (hD1.weaken (fun _ q _ h => hA1 q.1 h)) k3 (xl_agr hag h5 hl9)
    rw [← est] at w
    have X2 : Stand p l e R s m args below meth c T' (locs ++ L9) (R.cells - (b.1 - mc)) (R.slots - (b.2 - ms)) := by rw [← ec, ← es]; exact X'
    obtain ⟨t2, a1, b1⟩ := w T' rfl X2
    exact ⟨t2, go t2 a1, b1⟩
  · obtain ⟨k1, k2, k3⟩ := vx_keep h0 e1 hS (fun q _ => hA1 q) hA1 hL hF
    obtain ⟨k, hk, hq⟩ := hQ
    obtain ⟨pre, h, suf, kk, g1, g2, g3, g4, g5, g6, g7, g8⟩ := hH E k hk
    have hXE := C.2.2.2.2.2.2.1
    have hcast : (Cond.castable E E).before args s = true := va_Nw.use rfl (hXE.2.2.2.2.2.2.2.1 _ g6)
    have hcells : R.cells - (b.1 - mc) ≤ R.cells := Nat.sub_le _ _
    have fin : ∀ (pcR : Nat) (ls2 : Array Slot), decode d.2.1 pcR = .ok (.ireturn, 1) → lv_has ls2 d.2.2.1 [] → W p l e R s m args below meth c T'.heap (locs ++ L9) (R.cells - (b.1 - mc)) (R.slots - (b.2 - ms)) Z (F0 m pcR ls2 [.int k]) := fun pcR ls2 hd2 hl2 =>
      C.2.2.2.2.2.2.2.2.2.2.2.2.1 pcR [] k M' (b.1 - mc, b.2 - ms) hd2 ⟨_, hr0, rfl⟩ hq ad' T'.heap (locs ++ L9) ls2 (h1.tr hag h2) (Nat.le_trans h2 hle) hm (fun w hw => by rw [List.mem_singleton.mp hw]; exact trivial) (fun i v hv => by simp at hv) (Nat.le_trans (Nat.sub_le _ _) h6) (Nat.le_trans (Nat.sub_le _ _) h7) (by rw [e1]; exact hP1) (hD1.weaken (fun _ q _ h => hA1 q.1 h)) k3 hl2
    have cut : ∀ {ls2 : Array Slot} {l2 : List (Nat × Value)}, lv_has ls2 d.2.2.1 l2 → lv_has ls2 d.2.2.1 [] := fun h => ⟨h.1, h.2.1, fun _ hq => nomatch hq⟩
    have w : W p l e R s m args below meth c T'.heap (locs ++ L9) (R.cells - (b.1 - mc)) (R.slots - (b.2 - ms)) Z (F0 m h.2.2.1 ls [.ref q]) := by
      rcases g8 with ⟨j, d1, d2, d3, d4⟩ | ⟨j, d1, d2, d3, d4⟩
      · refine lv_astore_n C.1 C.2.1 d1 rfl hl9 d2 rfl (fun ls2 hl2 => ?_)
        refine lv_ldc C.1 C.2.1 C.2.2.2.1 (C.2.2.2.2.1 _ g7) d3 ?_
        exact fin _ ls2 d4 (cut hl2)
      · refine lv_astore C.1 C.2.1 d1 hl9 d2 rfl (fun ls2 hl2 => ?_)
        refine lv_ldc C.1 C.2.1 C.2.2.2.1 (C.2.2.2.2.1 _ g7) d3 ?_
        exact fin _ ls2 d4 (cut hl2)
    have w2 : vx_W p l e R s m args below meth c T'.heap (locs ++ L9) (R.cells - (b.1 - mc)) (R.slots - (b.2 - ms)) Z (F0 m pc ls (rest.map (xv ad ex))) q := by
      refine vx_catch (own := d.1.cls) (name := E) (E := E) (ce := ce) C.2.2.2.1 (tableOf pre) ⟨h.1, h.2.1, h.2.2.1, h.2.2.2⟩ (tableOf suf) (by rw [hT9, g1]; unfold tableOf; rw [List.map_append, List.map_cons]) ?_ g3 g4 (C.2.2.2.2.1 _ g5) hcast (by rw [e1]; exact hce) hcv hcl w
      intro z hz
      obtain ⟨y, hy, rfl⟩ := List.mem_map.mp hz
      obtain ⟨y1, nm, y2, y3⟩ := g2 y hy
      exact Or.inr ⟨y1, nm, C.2.2.2.2.1 _ y2, hXE.2.2.2.2.2.2.2.2.1 _ y3⟩
    have X2 : Stand p l e R s m args below meth c T' (locs ++ L9) (R.cells - (b.1 - mc)) (R.slots - (b.2 - ms)) := by rw [← ec, ← es]; exact X'
    obtain ⟨t2, a1, b1⟩ := w2 T' rfl X2
    exact ⟨t2, go.trans a1, b1⟩
theorem s_callVT {d d' : TrD} {hh : HH} {pc ix ci nargs mc ms : Nat} {T : u_T} {N : Nat} {ty : Nat → FieldType} {hl : List (String × Int32)} (hr0 : d.2.2.2.1 = some .int) (hH : ∀ E k, (E, k) ∈ hl → HOk d hh pc E k) (ok : ClOk ci d'.1.cls T N ty) (cc : CallC d d' nargs) (hw1 : Cond.methodLink d.1.cls ix d'.1 ∈ WG) (hw2 : Cond.instanceMethod d'.1 ∈ WG) (hw3 : Cond.selects d'.1.cls d'.1 d'.1 ∈ WG) (hd : decode d.2.1 pc = .ok (.invokevirtual ix, 3)) : SndH d hh pc (o_callVT (pc + 3) ci nargs d' mc ms hl) := by
  intro p l e R s m args below meth c Z D cy ex A n0 ad0 Q C hT9 K hK L st M b h ad H locs ls h1 h2 h3 h4 h5 h6 h7 hP hD hS hl9
  unfold o_callVT at h
  split at h
  · rename_i r rest hst
    split at h
    · rename_i ci' fs hM
      split at h
      · rename_i hb hcat hmc hms
        cases Nat.eq_of_beq_eq_true hb
        have hmc := Nat.le_of_ble_eq_true hmc
        have hms := Nat.le_of_ble_eq_true hms
        have hrest : scl M.length (.ref r :: rest) := fun w hw => h4 w (List.mem_of_mem_drop (hst ▸ hw))
        have hargs : scl M.length (.ref r :: (st.take nargs).reverse) := scl.cons hrest.hd (fun w hw => h4 w (List.mem_of_mem_take (List.mem_reverse.mp hw)))
        have hT := h h3 hargs l D cy ex ad H.size C.2.2.2.2.2.2.2.2.2.2.2.1
        obtain ⟨c1, c2, c3, c4, c5, c6, c7⟩ := cc
        have hq := xw_at (cy := cy) (ad := ad) (ex := ex) hM
        have hgood : GoodIn WG (wsV d.1.cls ix d'.1.cls d'.1 (wsOf d')) := WG_in (by
          intro w hw
          simp only [wsV, wsOf, List.cons_append, List.nil_append, List.mem_cons] at hw
          rcases hw with rfl | rfl | rfl | rfl | rfl | hw
          · exact hw1
          · exact hw2
          · exact hw3
          · exact c6
          · exact c7
          · exact hw)
        have hr := vx_runV (e := e) (below := below) (meth := meth) (b := ad r) (As := ((st.take nargs).reverse).map (xv ad ex)) (rest := rest.map (xv ad ex)) (locs := locs) (cells := R.cells - b.1) (slots := R.slots - b.2) (g := F0 m pc ls (st.map (xv ad ex))) ⟨C.1, C.2.1, C.2.2.1, C.2.2.2.1, C.2.2.2.2.1⟩ hT (cwV nargs C.2.2.2.2.1 hgood rfl rfl rfl ⟨rfl, c1, c2, c3⟩ ⟨by rw [C.2.2.2.2.2.2.2.2.1]; exact c4, by rw [C.2.2.2.2.2.2.2.2.2.1]; exact c5⟩) ⟨TPre_blind, va_recv C.2.2.2.2.2.1 hP ok.1 hq, fun U hU hW => ⟨rfl, tpre_at C hP hD hS U hU hW⟩⟩ rfl (by rw [List.length_map, List.length_reverse, take_len hst]) hl9.1 (by
          show st.map (xv ad ex) = _
          rw [← List.map_reverse, List.reverse_reverse, ← List.take_append_drop nargs st, List.map_append, List.take_append_drop, hst]
          rfl) (lv_room (by rw [cat_map]; exact Nat.le_of_ble_eq_true hcat)) hd ⟨by omega, by omega⟩
        exact run_onT C hT9 hr0 hH hK rfl hmc hms h1 h2 h3 hrest.tl h5 h6 h7 hP hD hS hl9 hr
      · exact h.elim
    · exact h.elim
  · exact h.elim
theorem TrH.of {d : TrD} {hh : HH} {pcT : Nat} {opT : HOp} {mc ms : Nat} {a : List Value} {M : AM} {Q : AQ} {code : Nat → WOp} (hs : ∀ pc, Snd d (fun _ _ _ => True) pc (code pc)) (hcw : Cond.codeWith d.1 d.2.1 d.2.2.1 d.2.2.2.1 hh ∈ wsH d hh) (hsT : SndH d hh pcT opT) (hno : ∀ E M, ¬ Q (.inr E) M) (hy : plainName d.1.cls = true) (hn : (a.flatMap entV).length ≤ d.2.2.1)
    (body : ∀ X : WK, Clo code Q X → (∀ L st M b, opT X Q L st M b → X pcT L st M b) → X 0 (entL d.2.2.1 a) [] M (mc, ms)) : TrH d hh mc ms a M Q := by
  intro hM ha l D cy ex ad sz hl0
  refine vx_ofWH (hh := hh) (cc := d.2.1) (maxL := d.2.2.1) (ret := d.2.2.2.1) hy rfl ?_
  intro p e s m args below meth c s₁ B hml hv
  obtain ⟨rfl, hsz, hP, hK, hD0, hE⟩ := hv
  have hb := B.bytes
  have hts := atoms_spec (ws := wsH d hh) B.pre
  have hlocks := B.notSynchronized
  subst hsz
  have hD := hD0.self (sz := s.heap.size)
  generalize hAe : va_A (xw cy ad ex M) s.heap.size = A at hD hE ⊢
  have hA : ∀ q : Nat, s.heap.size ≤ q → A q := fun q h => by rw [← hAe]; exact Or.inr h
  have C : Cx d p l e (rmOf d mc ms) s m ((a.map (xv ad ex)).toArray) below meth c (vx_MQ below (TRet D cy ex ad M A Q) (fun _ _ _ => False) ((a.map (xv ad ex)).toArray) s mc ms A) D cy ex A M.length ad Q := by
    refine ⟨B.exec, hb, hml, findClass_of_methodNamed B.named, fun w hw => hts w (List.mem_cons_of_mem _ hw), hK, hE, hA, rfl, rfl, fun h => (name_of_methodNamed B.named B.method).1.trans h, hl0, ?_⟩
    have fin : ∀ (v : Option Value) (M' : AM) (ad' : Nat → Nat) (H : Heap) (locs : List Loc), Q (.inl v) M' → Agr M.length ad ad' → M.length ≤ M'.length → mcl M' → (∀ w, v = some w → vcl M'.length w) → va_P D vwCl (xw cy ad' ex M') H → va_D A (xw cy ad' ex M') → va_S A s.heap H locs → ∀ t : State, t.heap = H → s.WarmedH t.vm → TRet D cy ex ad M A Q ((a.map (xv ad ex)).toArray) s (.returned (v.map (xv ad' ex))) t := by
      intro v M' ad' H locs hQ h1 h2 h3 h4 hP' hD' hS' t htH hW
      exact ⟨⟨ad', v, M', rfl, hQ, h1, h2, h3, h4, by rw [htH]; exact hP', hD'⟩, hS'.F htH⟩
    refine ⟨?_, ?_, ?_, ?_, ?_, ?_⟩
    · intro pc L x M' b hd hr hQ ad' H locs ls h1 h2 h3 h4 h5 h6 h7 hP' hD' hS' hl'
      obtain ⟨ty, hr1, hr2⟩ := hr
      refine W.widen (k := mc) (n := ms) (Nat.sub_le _ _) (Nat.sub_le _ _) (vx_ret ?_)
      exact W.zret (v := x) B.exec hb (B.returns.trans hr1) hr2 (fin (some (.int x)) M' ad' H locs hQ h1 h2 h3 (fun w hw => by cases hw; exact trivial) hP' hD' hS') hS'.2.2 hd
    · intro pc L x M' b hd hr hQ ad' H locs ls h1 h2 h3 h4 h5 h6 h7 hP' hD' hS' hl'
      refine W.widen (k := mc) (n := ms) (Nat.sub_le _ _) (Nat.sub_le _ _) (vx_ret ?_)
      exact W.lret (v := x) B.exec hb (B.returns.trans hr) (fin (some (.long x)) M' ad' H locs hQ h1 h2 h3 (fun w hw => by cases hw; exact trivial) hP' hD' hS') hS'.2.2 hd
    · intro pc L u M' b hd hr hQ ad' H locs ls h1 h2 h3 h4 h5 h6 h7 hP' hD' hS' hl'
      obtain ⟨n, hr1⟩ := hr
      refine W.widen (k := mc) (n := ms) (Nat.sub_le _ _) (Nat.sub_le _ _) (vx_ret ?_)
      exact W.aret (v := .ref (ex u.toNat)) (rt := .object n) B.exec hb (B.returns.trans hr1) (Or.inl ⟨n, rfl⟩) (Or.inr ⟨_, rfl⟩) (fin (some (.float u)) M' ad' H locs hQ h1 h2 h3 (fun w hw => by cases hw; exact trivial) hP' hD' hS') hS'.2.2 hd
    · intro pc L M' b hd hr hQ ad' H locs ls h1 h2 h3 h4 h5 h6 h7 hP' hD' hS' hl'
      refine W.widen (k := mc) (n := ms) (Nat.sub_le _ _) (Nat.sub_le _ _) (vx_ret ?_)
      exact W.vret B.exec hb (B.returns.trans hr) (fin none M' ad' H locs hQ h1 h2 h3 (fun w hw => by cases hw) hP' hD' hS') hS'.2.2 hd
    · intro pc E ce q H M' b ad' ls rest locs hQ
      exact (hno _ _ hQ).elim
    · intro pc ik ic cls L M' b d0 d3 d4 d7 k1 k2 k3 k4 k5 k6 k7 k8 k9 hQ
      exact (hno _ _ hQ).elim
  have htab : c.exceptionTable.toList = tableOf hh := vx_table (x := d.1) (y := d.1) (S := headSpec (wsH d hh) (rmOf d mc ms)) (cc := d.2.1) (bytes := d.2.1) (maxL := d.2.2.1) (maxL' := d.2.2.1) (ret := d.2.2.2.1) (ret' := d.2.2.2.1) B (hts _ hcw)
  have hX := body (XX p l e (rmOf d mc ms) s m ((a.map (xv ad ex)).toArray) below meth c (vx_MQ below (TRet D cy ex ad M A Q) (fun _ _ _ => False) ((a.map (xv ad ex)).toArray) s mc ms A) D cy ex A M.length ad d.2.2.1)
    ⟨fun K hK pc L st M' b h => hs pc p l e (rmOf d mc ms) s m _ below meth c _ D cy ex A M.length ad Q C trivial K hK L st M' b h,
     fun pc L L' st M' b hsub h ad' H locs ls h1 h2 h3 h4 h5 h6 h7 hP' hD' hS' hl' => h ad' H locs ls h1 h2 h3 h4 (fun i v hv => h5 i v (hsub i v hv)) h6 h7 hP' hD' hS' (xl_sub hl' hsub)⟩
    (fun L st M' b h => hsT p l e (rmOf d mc ms) s m _ below meth c _ D cy ex A M.length ad Q C htab _ (fun _ _ _ _ _ q => q) L st M' b h)
  have hl1 := lv_entry (a.map (xv ad ex)) (n := d.2.2.1) (by rw [entL_len]; exact hn)
  rw [lg_entry_eq]
  have hl2 : lv_has ((lg_sl (a.map (xv ad ex)) ++ List.replicate (d.2.2.1 - (lg_sl (a.map (xv ad ex))).length) Slot.unset).toArray) d.2.2.1 (xl ad ex (entL d.2.2.1 a)) := ⟨hl1.1, hl1.2.1, fun q hq => by
    obtain ⟨v, hv1, hv2⟩ := xl_mem.mp hq
    have := entV_xl (ad := ad) (ex := ex) a 0 q.1 v (entL_at hv1)
    rw [Nat.zero_add, ← hv2] at this
    exact hl1.2.2 q this⟩
  have w := hX ad s.heap [] _ Agr.rf (Nat.le_refl _) hM (fun w hw => by cases hw) (entL_cl ha) (Nat.le_refl _) (Nat.le_refl _) hP hD va_S.rf hl2
  have e1 : (rmOf d mc ms).cells - (mc, ms).1 = 0 := Nat.sub_self mc
  have e2 : (rmOf d mc ms).slots - (mc, ms).2 = 0 := Nat.sub_self ms
  rw [e1, e2] at w
  exact w
