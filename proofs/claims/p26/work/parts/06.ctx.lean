/-! ===== contexts; what it means that an op is sound at a place ===== -/
abbrev TrD : Type := MethodName × ByteArray × Nat × Option FieldType × Nat × Nat
def TY (cy : Nat → Nat) : List (ClassId × FieldType) := [(cy 0, .int), (cy 1, .byte), (cy 2, .byte), (cy 3, .object "PlateArm$State"), (cy 4, .array .int)]
/-- the machine at the frame pc with the abstract locals, stack, world and credit comes to Z -/
def XX (p : Program) (l : Launch) (e : Env) (R : Room) (s : State) (m : MethodId) (args : Array Value) (below : List Frame) (meth : Method) (c : Code) (Z : State → Prop) (D : va_G) (cy ex : Nat → Nat) (A : Nat → Prop) (n0 : Nat) (ad0 : Nat → Nat) (nL : Nat) : WK := fun pc L st M b =>
  ∀ (ad : Nat → Nat) (H : Heap) (locs : List Loc) (ls : Array Slot), Agr n0 ad0 ad → n0 ≤ M.length → mcl M → scl M.length st → lcl M.length L → b.1 ≤ R.cells → b.2 ≤ R.slots →
    va_P D vwCl (xw cy ad ex M) H → va_D A (xw cy ad ex M) → va_S A s.heap H locs → lv_has ls nL (xl ad ex L) →
    W p l e R s m args below meth c H locs (R.cells - b.1) (R.slots - b.2) Z (F0 m pc ls (st.map (xv ad ex)))
/-- the ends of a method: what Q says of an answer or a throw is enough -/
def Fins (d : TrD) (p : Program) (l : Launch) (e : Env) (R : Room) (s : State) (m : MethodId) (args : Array Value) (below : List Frame) (meth : Method) (c : Code) (Z : State → Prop) (D : va_G) (cy ex : Nat → Nat) (A : Nat → Prop) (n0 : Nat) (ad0 : Nat → Nat) (Q : AQ) : Prop :=
  (∀ (pc : Nat) (L : AL) (x : Int32) (M : AM) (b : AB), decode d.2.1 pc = .ok (.ireturn, 1) → (∃ ty, d.2.2.2.1 = some ty ∧ narrow ty (.int x) = .int x) → Q (.inl (some (.int x))) M → XX p l e R s m args below meth c Z D cy ex A n0 ad0 d.2.2.1 pc L [.int x] M b) ∧
  (∀ (pc : Nat) (L : AL) (x : Int64) (M : AM) (b : AB), decode d.2.1 pc = .ok (.lreturn, 1) → d.2.2.2.1 = some .long → Q (.inl (some (.long x))) M → XX p l e R s m args below meth c Z D cy ex A n0 ad0 d.2.2.1 pc L [.long x] M b) ∧
  (∀ (pc : Nat) (L : AL) (u : UInt32) (M : AM) (b : AB), decode d.2.1 pc = .ok (.areturn, 1) → (∃ n, d.2.2.2.1 = some (.object n)) → Q (.inl (some (.float u))) M → XX p l e R s m args below meth c Z D cy ex A n0 ad0 d.2.2.1 pc L [.float u] M b) ∧
  (∀ (pc : Nat) (L : AL) (M : AM) (b : AB), decode d.2.1 pc = .ok (.return_, 1) → d.2.2.2.1 = none → Q (.inl none) M → XX p l e R s m args below meth c Z D cy ex A n0 ad0 d.2.2.1 pc L [] M b) ∧
  (∀ (pc : Nat) (E : String) (ce : Cell) (q : Addr) (H : Heap) (M : AM) (b : AB) (ad : Nat → Nat) (ls : Array Slot) (rest : List Value) (locs : List Loc), Q (.inr E) M → Agr n0 ad0 ad → n0 ≤ M.length → mcl M → b.1 ≤ R.cells → b.2 ≤ R.slots →
    va_P D vwCl (xw cy ad ex M) H → va_D A (xw cy ad ex M) → va_S A s.heap H locs → H[q]? = some ce → ce.vm = .none → s.vm.findClass E = some ce.cls → vx_W p l e R s m args below meth c H locs (R.cells - b.1) (R.slots - b.2) Z (F0 m pc ls rest) q) ∧
  (∀ (pc ik ic : Nat) (cls : String) (L : AL) (M : AM) (b : AB), decode d.2.1 pc = .ok (.new ik, 3) → decode d.2.1 (pc + 3) = .ok (.dup, 1) → decode d.2.1 (pc + 4) = .ok (.invokespecial ic, 3) → decode d.2.1 (pc + 7) = .ok (.athrow, 1) →
    Bundle.fit cls = true → (Cond.classLink d.1.cls ik cls).before args s = true → (Cond.initialized cls).before args s = true → (∀ w ∈ vx_at0 d.1.cls ic cls ["java/lang/RuntimeException", "java/lang/Exception"], w.before args s = true) → (∀ w ∈ Cond.classLink d.1.cls ik cls :: Cond.initialized cls :: vx_at0 d.1.cls ic cls ["java/lang/RuntimeException", "java/lang/Exception"], vx_ot w = true) →
    5 < R.frames → 81 ≤ R.locals → 1 ≤ b.1 → 6 ≤ b.2 → Q (.inr cls) M → XX p l e R s m args below meth c Z D cy ex A n0 ad0 d.2.2.1 pc L [] M b)
def Cx (d : TrD) (p : Program) (l : Launch) (e : Env) (R : Room) (s : State) (m : MethodId) (args : Array Value) (below : List Frame) (meth : Method) (c : Code) (Z : State → Prop) (D : va_G) (cy ex : Nat → Nat) (A : Nat → Prop) (n0 : Nat) (ad0 : Nat → Nat) (Q : AQ) : Prop :=
  p.tables.exec = Jvm.exec ∧ c.code = d.2.1 ∧ c.maxLocals = d.2.2.1 ∧ s.vm.findClass d.1.cls = some m.cls ∧ (∀ w ∈ WG, w.before args s = true) ∧ va_K D vwCl (TY cy) s ∧ XE ex A s s.heap ∧ (∀ q, s.heap.size ≤ q → A q) ∧ R.frames = d.2.2.2.2.1 ∧ R.locals = d.2.2.2.2.2 ∧ (d.1.name = "<init>" → meth.name = "<init>") ∧ l.stackTraces = false ∧
  Fins d p l e R s m args below meth c Z D cy ex A n0 ad0 Q
/-- G: what else the op wants of the context (True, but for the law's own script) -/
def Snd (d : TrD) (G : (Nat → Nat) → (Nat → Prop) → State → Prop) (pc : Nat) (op : WOp) : Prop :=
  ∀ (p : Program) (l : Launch) (e : Env) (R : Room) (s : State) (m : MethodId) (args : Array Value) (below : List Frame) (meth : Method) (c : Code) (Z : State → Prop) (D : va_G) (cy ex : Nat → Nat) (A : Nat → Prop) (n0 : Nat) (ad0 : Nat → Nat) (Q : AQ), Cx d p l e R s m args below meth c Z D cy ex A n0 ad0 Q → G ex A s →
    ∀ K : WK, (∀ pc L st M b, K pc L st M b → XX p l e R s m args below meth c Z D cy ex A n0 ad0 d.2.2.1 pc L st M b) → ∀ (L : AL) (st : List Value) (M : AM) (b : AB), op K Q L st M b → XX p l e R s m args below meth c Z D cy ex A n0 ad0 d.2.2.1 pc L st M b
abbrev GX : Type := (Nat → Nat) → (Nat → Prop) → State → Prop
def oBad : WOp := fun _ _ _ _ _ _ => False
theorem s_bad {d : TrD} {G : GX} {pc : Nat} : Snd d G pc oBad := fun _ _ _ _ _ _ _ _ _ _ _ _ _ _ _ _ _ _ _ _ _ _ _ _ _ _ h => h.elim
/-! code as a tree over the places -/
def cN (k : Nat) (a b : Nat → WOp) : Nat → WOp := fun pc => match Nat.ble pc k with
  | true => a pc
  | false => b pc
def cL (k : Nat) (o : WOp) : Nat → WOp := fun pc => match Nat.beq pc k with
  | true => o
  | false => oBad
theorem s_N {d : TrD} {G : GX} {k : Nat} {a b : Nat → WOp} (ha : ∀ pc, Snd d G pc (a pc)) (hb : ∀ pc, Snd d G pc (b pc)) : ∀ pc, Snd d G pc (cN k a b pc) := fun pc => by
  unfold cN
  split
  · exact ha pc
  · exact hb pc
theorem s_L {d : TrD} {G : GX} {k : Nat} {o : WOp} (h : Snd d G k o) : ∀ pc, Snd d G pc (cL k o pc) := fun pc => by
  unfold cL
  split
  · rename_i e
    rw [Nat.eq_of_beq_eq_true e]; exact h
  · exact s_bad

def o_push (n : Nat) (v : Int32) : WOp := fun K Q L st M b => K n L (.int v :: st) M b
theorem s_iconst {d : TrD} {G : GX} {pc : Nat} {k : Int} {v : Int32} (hd : decode d.2.1 pc = .ok (.iconst k, 1)) (hv : Int32.ofInt k = v) : Snd d G pc (o_push (pc + 1) v) := by
  intro p l e R s m args below meth c Z D cy ex A n0 ad0 Q C g K hK L st M b h ad H locs ls h1 h2 h3 h4 h5 h6 h7 hP hD hS hl
  refine lv_iconst C.1 C.2.1 hd hv ?_
  exact hK _ _ _ _ _ h ad H locs ls h1 h2 h3 (scl.cons trivial h4) h5 h6 h7 hP hD hS hl
theorem s_bipush {d : TrD} {G : GX} {pc : Nat} {k : Int} {v : Int32} (hd : decode d.2.1 pc = .ok (.bipush k, 2)) (hv : (Int8.ofInt k).toInt32 = v) : Snd d G pc (o_push (pc + 2) v) := by
  intro p l e R s m args below meth c Z D cy ex A n0 ad0 Q C g K hK L st M b h ad H locs ls h1 h2 h3 h4 h5 h6 h7 hP hD hS hl
  refine lv_bipush C.1 C.2.1 hd hv ?_
  exact hK _ _ _ _ _ h ad H locs ls h1 h2 h3 (scl.cons trivial h4) h5 h6 h7 hP hD hS hl
theorem s_sipush {d : TrD} {G : GX} {pc : Nat} {k : Int} {v : Int32} (hd : decode d.2.1 pc = .ok (.sipush k, 3)) (hv : (Int16.ofInt k).toInt32 = v) : Snd d G pc (o_push (pc + 3) v) := by
  intro p l e R s m args below meth c Z D cy ex A n0 ad0 Q C g K hK L st M b h ad H locs ls h1 h2 h3 h4 h5 h6 h7 hP hD hS hl
  refine lv_sipush C.1 C.2.1 hd hv ?_
  exact hK _ _ _ _ _ h ad H locs ls h1 h2 h3 (scl.cons trivial h4) h5 h6 h7 hP hD hS hl
def o_lpush (n : Nat) (v : Int64) : WOp := fun K Q L st M b => K n L (.long v :: st) M b
theorem s_ldc2 {d : TrD} {G : GX} {pc : Nat} {ix : Nat} {v : Int64} (hd : decode d.2.1 pc = .ok (.ldc2_w ix, 3)) (hw : Cond.constantLong d.1.cls ix v ∈ WG) : Snd d G pc (o_lpush (pc + 3) v) := by
  intro p l e R s m args below meth c Z D cy ex A n0 ad0 Q C g K hK L st M b h ad H locs ls h1 h2 h3 h4 h5 h6 h7 hP hD hS hl
  refine lv_ldc2 C.1 C.2.1 C.2.2.2.1 (C.2.2.2.2.1 _ hw) hd ?_
  exact hK _ _ _ _ _ h ad H locs ls h1 h2 h3 (scl.cons trivial h4) h5 h6 h7 hP hD hS hl
def o_iload (n i : Nat) : WOp := fun K Q L st M b => match L[i]? with
  | some (some (.int x)) => K n L (.int x :: st) M b
  | _ => False
def o_lload (n i : Nat) : WOp := fun K Q L st M b => match L[i]? with
  | some (some (.long x)) => K n L (.long x :: st) M b
  | _ => False
def o_aload (n i : Nat) : WOp := fun K Q L st M b => match L[i]? with
  | some (some (.ref x)) => K n L (.ref x :: st) M b
  | some (some (.float x)) => K n L (.float x :: st) M b
  | _ => False
theorem s_iload_n {d : TrD} {G : GX} {pc : Nat} {k : Fin 4} {i : Nat} (hd : decode d.2.1 pc = .ok (.iload_n k, 1)) (hi : (k : Nat) = i) : Snd d G pc (o_iload (pc + 1) i) := by
  intro p l e R s m args below meth c Z D cy ex A n0 ad0 Q C g K hK L st M b h ad H locs ls h1 h2 h3 h4 h5 h6 h7 hP hD hS hl
  unfold o_iload at h
  split at h
  · rename_i x hx
    have hx2 := xl_at hl hx
    refine lv_iload_n C.1 C.2.1 hd hi hx2 ?_
    exact hK _ _ _ _ _ h ad H locs ls h1 h2 h3 (scl.cons (h5 _ _ hx) h4) h5 h6 h7 hP hD hS hl
  · exact h.elim
theorem s_iload {d : TrD} {G : GX} {pc : Nat} {i : Nat} (hd : decode d.2.1 pc = .ok (.iload i, 2)) : Snd d G pc (o_iload (pc + 2) i) := by
  intro p l e R s m args below meth c Z D cy ex A n0 ad0 Q C g K hK L st M b h ad H locs ls h1 h2 h3 h4 h5 h6 h7 hP hD hS hl
  unfold o_iload at h
  split at h
  · rename_i x hx
    have hx2 := xl_at hl hx
    refine lv_iload C.1 C.2.1 hd  hx2 ?_
    exact hK _ _ _ _ _ h ad H locs ls h1 h2 h3 (scl.cons (h5 _ _ hx) h4) h5 h6 h7 hP hD hS hl
  · exact h.elim
theorem s_lload_n {d : TrD} {G : GX} {pc : Nat} {k : Fin 4} {i : Nat} (hd : decode d.2.1 pc = .ok (.lload_n k, 1)) (hi : (k : Nat) = i) : Snd d G pc (o_lload (pc + 1) i) := by
  intro p l e R s m args below meth c Z D cy ex A n0 ad0 Q C g K hK L st M b h ad H locs ls h1 h2 h3 h4 h5 h6 h7 hP hD hS hl
  unfold o_lload at h
  split at h
  · rename_i x hx
    have hx2 := xl_at hl hx
    refine lv_lload_n C.1 C.2.1 hd hi hx2 ?_
    exact hK _ _ _ _ _ h ad H locs ls h1 h2 h3 (scl.cons (h5 _ _ hx) h4) h5 h6 h7 hP hD hS hl
  · exact h.elim
theorem s_lload {d : TrD} {G : GX} {pc : Nat} {i : Nat} (hd : decode d.2.1 pc = .ok (.lload i, 2)) : Snd d G pc (o_lload (pc + 2) i) := by
  intro p l e R s m args below meth c Z D cy ex A n0 ad0 Q C g K hK L st M b h ad H locs ls h1 h2 h3 h4 h5 h6 h7 hP hD hS hl
  unfold o_lload at h
  split at h
  · rename_i x hx
    have hx2 := xl_at hl hx
    refine lv_lload C.1 C.2.1 hd  hx2 ?_
    exact hK _ _ _ _ _ h ad H locs ls h1 h2 h3 (scl.cons (h5 _ _ hx) h4) h5 h6 h7 hP hD hS hl
  · exact h.elim
theorem s_aload_n {d : TrD} {G : GX} {pc : Nat} {k : Fin 4} {i : Nat} (hd : decode d.2.1 pc = .ok (.aload_n k, 1)) (hi : (k : Nat) = i) : Snd d G pc (o_aload (pc + 1) i) := by
  intro p l e R s m args below meth c Z D cy ex A n0 ad0 Q C g K hK L st M b h ad H locs ls h1 h2 h3 h4 h5 h6 h7 hP hD hS hl
  unfold o_aload at h
  split at h
  · rename_i x hx
    have hx2 := xl_at hl hx
    refine lv_aload_n C.1 C.2.1 hd hi hx2 ?_
    exact hK _ _ _ _ _ h ad H locs ls h1 h2 h3 (scl.cons (h5 _ _ hx) h4) h5 h6 h7 hP hD hS hl
  · rename_i x hx
    have hx2 := xl_at hl hx
    refine lv_aload_n C.1 C.2.1 hd hi hx2 ?_
    exact hK _ _ _ _ _ h ad H locs ls h1 h2 h3 (scl.cons (h5 _ _ hx) h4) h5 h6 h7 hP hD hS hl
  · exact h.elim
theorem s_aload {d : TrD} {G : GX} {pc : Nat} {i : Nat} (hd : decode d.2.1 pc = .ok (.aload i, 2)) : Snd d G pc (o_aload (pc + 2) i) := by
  intro p l e R s m args below meth c Z D cy ex A n0 ad0 Q C g K hK L st M b h ad H locs ls h1 h2 h3 h4 h5 h6 h7 hP hD hS hl
  unfold o_aload at h
  split at h
  · rename_i x hx
    have hx2 := xl_at hl hx
    refine lv_aload C.1 C.2.1 hd  hx2 ?_
    exact hK _ _ _ _ _ h ad H locs ls h1 h2 h3 (scl.cons (h5 _ _ hx) h4) h5 h6 h7 hP hD hS hl
  · rename_i x hx
    have hx2 := xl_at hl hx
    refine lv_aload C.1 C.2.1 hd  hx2 ?_
    exact hK _ _ _ _ _ h ad H locs ls h1 h2 h3 (scl.cons (h5 _ _ hx) h4) h5 h6 h7 hP hD hS hl
  · exact h.elim
def o_istore (n i : Nat) : WOp := fun K Q L st M b => match st with
  | .int x :: st1' => K n (st1 L i (.int x)) st1' M b
  | _ => False
def o_lstore (n i : Nat) : WOp := fun K Q L st M b => match st with
  | .long x :: st1' => K n (st2 L i (.long x)) st1' M b
  | _ => False
def o_astore (n i : Nat) : WOp := fun K Q L st M b => match st with
  | .ref x :: st1' => K n (st1 L i (.ref x)) st1' M b
  | .float x :: st1' => K n (st1 L i (.float x)) st1' M b
  | _ => False
theorem s_istore_n {d : TrD} {G : GX} {pc : Nat} {k : Fin 4} {i : Nat} (hd : decode d.2.1 pc = .ok (.istore_n k, 1)) (hi : (k : Nat) = i) (hn : i < d.2.2.1) : Snd d G pc (o_istore (pc + 1) i) := by
  intro p l e R s m args below meth c Z D cy ex A n0 ad0 Q C g K hK L st M b h ad H locs ls h1 h2 h3 h4 h5 h6 h7 hP hD hS hl
  unfold o_istore at h
  split at h
  · rename_i x st1'
    refine lv_istore_n C.1 C.2.1 hd hi hl hn rfl (fun ls9 hl9 => ?_)
    exact hK _ _ _ _ _ h ad H locs ls9 h1 h2 h3 h4.tl (lcl_st1 h5 h4.hd) h6 h7 hP hD hS (xl_st1 (Or.inr trivial) hl9)
  · exact h.elim
theorem s_istore {d : TrD} {G : GX} {pc : Nat} {i : Nat} (hd : decode d.2.1 pc = .ok (.istore i, 2)) (hn : i < d.2.2.1) : Snd d G pc (o_istore (pc + 2) i) := by
  intro p l e R s m args below meth c Z D cy ex A n0 ad0 Q C g K hK L st M b h ad H locs ls h1 h2 h3 h4 h5 h6 h7 hP hD hS hl
  unfold o_istore at h
  split at h
  · rename_i x st1'
    refine lv_istore C.1 C.2.1 hd  hl hn rfl (fun ls9 hl9 => ?_)
    exact hK _ _ _ _ _ h ad H locs ls9 h1 h2 h3 h4.tl (lcl_st1 h5 h4.hd) h6 h7 hP hD hS (xl_st1 (Or.inr trivial) hl9)
  · exact h.elim
theorem s_lstore_n {d : TrD} {G : GX} {pc : Nat} {k : Fin 4} {i : Nat} (hd : decode d.2.1 pc = .ok (.lstore_n k, 1)) (hi : (k : Nat) = i) (hn : i + 1 < d.2.2.1) : Snd d G pc (o_lstore (pc + 1) i) := by
  intro p l e R s m args below meth c Z D cy ex A n0 ad0 Q C g K hK L st M b h ad H locs ls h1 h2 h3 h4 h5 h6 h7 hP hD hS hl
  unfold o_lstore at h
  split at h
  · rename_i x st1'
    refine lv_lstore_n C.1 C.2.1 hd hi hl hn rfl (fun ls9 hl9 => ?_)
    exact hK _ _ _ _ _ h ad H locs ls9 h1 h2 h3 h4.tl (lcl_st2 h5 h4.hd) h6 h7 hP hD hS (xl_st2 hl9)
  · exact h.elim
theorem s_lstore {d : TrD} {G : GX} {pc : Nat} {i : Nat} (hd : decode d.2.1 pc = .ok (.lstore i, 2)) (hn : i + 1 < d.2.2.1) : Snd d G pc (o_lstore (pc + 2) i) := by
  intro p l e R s m args below meth c Z D cy ex A n0 ad0 Q C g K hK L st M b h ad H locs ls h1 h2 h3 h4 h5 h6 h7 hP hD hS hl
  unfold o_lstore at h
  split at h
  · rename_i x st1'
    refine lv_lstore C.1 C.2.1 hd  hl hn rfl (fun ls9 hl9 => ?_)
    exact hK _ _ _ _ _ h ad H locs ls9 h1 h2 h3 h4.tl (lcl_st2 h5 h4.hd) h6 h7 hP hD hS (xl_st2 hl9)
  · exact h.elim
theorem s_astore_n {d : TrD} {G : GX} {pc : Nat} {k : Fin 4} {i : Nat} (hd : decode d.2.1 pc = .ok (.astore_n k, 1)) (hi : (k : Nat) = i) (hn : i < d.2.2.1) : Snd d G pc (o_astore (pc + 1) i) := by
  intro p l e R s m args below meth c Z D cy ex A n0 ad0 Q C g K hK L st M b h ad H locs ls h1 h2 h3 h4 h5 h6 h7 hP hD hS hl
  unfold o_astore at h
  split at h
  · rename_i x st1'
    refine lv_astore_n C.1 C.2.1 hd hi hl hn rfl (fun ls9 hl9 => ?_)
    exact hK _ _ _ _ _ h ad H locs ls9 h1 h2 h3 h4.tl (lcl_st1 h5 h4.hd) h6 h7 hP hD hS (xl_st1 (Or.inr trivial) hl9)
  · rename_i x st1'
    refine lv_astore_n C.1 C.2.1 hd hi hl hn rfl (fun ls9 hl9 => ?_)
    exact hK _ _ _ _ _ h ad H locs ls9 h1 h2 h3 h4.tl (lcl_st1 h5 h4.hd) h6 h7 hP hD hS (xl_st1 (Or.inr trivial) hl9)
  · exact h.elim
theorem s_astore {d : TrD} {G : GX} {pc : Nat} {i : Nat} (hd : decode d.2.1 pc = .ok (.astore i, 2)) (hn : i < d.2.2.1) : Snd d G pc (o_astore (pc + 2) i) := by
  intro p l e R s m args below meth c Z D cy ex A n0 ad0 Q C g K hK L st M b h ad H locs ls h1 h2 h3 h4 h5 h6 h7 hP hD hS hl
  unfold o_astore at h
  split at h
  · rename_i x st1'
    refine lv_astore C.1 C.2.1 hd  hl hn rfl (fun ls9 hl9 => ?_)
    exact hK _ _ _ _ _ h ad H locs ls9 h1 h2 h3 h4.tl (lcl_st1 h5 h4.hd) h6 h7 hP hD hS (xl_st1 (Or.inr trivial) hl9)
  · rename_i x st1'
    refine lv_astore C.1 C.2.1 hd  hl hn rfl (fun ls9 hl9 => ?_)
    exact hK _ _ _ _ _ h ad H locs ls9 h1 h2 h3 h4.tl (lcl_st1 h5 h4.hd) h6 h7 hP hD hS (xl_st1 (Or.inr trivial) hl9)
  · exact h.elim
def o_iinc (n i : Nat) (k : Int32) : WOp := fun K Q L st M b => match L[i]? with
  | some (some (.int x)) => K n (st1 L i (.int (x + k))) st M b
  | _ => False
theorem s_iinc {d : TrD} {G : GX} {pc : Nat} {i : Nat} {k : Int} {v : Int32} (hd : decode d.2.1 pc = .ok (.iinc i k, 3)) (hv : Int32.ofInt k = v) (hn : i < d.2.2.1) : Snd d G pc (o_iinc (pc + 3) i v) := by
  intro p l e R s m args below meth c Z D cy ex A n0 ad0 Q C g K hK L st M b h ad H locs ls h1 h2 h3 h4 h5 h6 h7 hP hD hS hl
  unfold o_iinc at h
  split at h
  · rename_i x hx
    obtain ⟨k9, hk9⟩ := List.getElem?_of_mem (xl_mem.mpr ⟨_, hx, rfl⟩ : (i, xv ad ex (.int x)) ∈ xl ad ex L)
    refine lv_iinc (v := x + v) C.1 C.2.1 hd hl hk9 (by rw [hv]) hn rfl (fun ls9 hl9 => ?_)
    exact hK _ _ _ _ _ h ad H locs ls9 h1 h2 h3 h4 (lcl_st1 h5 trivial) h6 h7 hP hD hS (xl_st1 (Or.inr trivial) hl9)
  · exact h.elim
def o_iadd (n : Nat) : WOp := fun K Q L st M b => match st with
  | .int y :: .int x :: st1 => K n L (.int (x + y) :: st1) M b
  | _ => False
theorem s_o_iadd {d : TrD} {G : GX} {pc : Nat} (hd : decode d.2.1 pc = .ok (.iadd, 1)) : Snd d G pc (o_iadd (pc + 1)) := by
  intro p l e R s m args below meth c Z D cy ex A n0 ad0 Q C g K hK L st M b h ad H locs ls h1 h2 h3 h4 h5 h6 h7 hP hD hS hl
  unfold o_iadd at h
  split at h
  · rename_i y x st1
    skip
    refine lv_iadd C.1 C.2.1 hd ?_
    exact hK _ _ _ _ _ h ad H locs ls h1 h2 h3 (scl.cons trivial h4.tl.tl) h5 h6 h7 hP hD hS hl
  · exact h.elim
def o_isub (n : Nat) : WOp := fun K Q L st M b => match st with
  | .int y :: .int x :: st1 => K n L (.int (x - y) :: st1) M b
  | _ => False
theorem s_o_isub {d : TrD} {G : GX} {pc : Nat} (hd : decode d.2.1 pc = .ok (.isub, 1)) : Snd d G pc (o_isub (pc + 1)) := by
  intro p l e R s m args below meth c Z D cy ex A n0 ad0 Q C g K hK L st M b h ad H locs ls h1 h2 h3 h4 h5 h6 h7 hP hD hS hl
  unfold o_isub at h
  split at h
  · rename_i y x st1
    skip
    refine lv_isub C.1 C.2.1 hd ?_
    exact hK _ _ _ _ _ h ad H locs ls h1 h2 h3 (scl.cons trivial h4.tl.tl) h5 h6 h7 hP hD hS hl
  · exact h.elim
def o_imul (n : Nat) : WOp := fun K Q L st M b => match st with
  | .int y :: .int x :: st1 => K n L (.int (x * y) :: st1) M b
  | _ => False
theorem s_o_imul {d : TrD} {G : GX} {pc : Nat} (hd : decode d.2.1 pc = .ok (.imul, 1)) : Snd d G pc (o_imul (pc + 1)) := by
  intro p l e R s m args below meth c Z D cy ex A n0 ad0 Q C g K hK L st M b h ad H locs ls h1 h2 h3 h4 h5 h6 h7 hP hD hS hl
  unfold o_imul at h
  split at h
  · rename_i y x st1
    skip
    refine lv_imul C.1 C.2.1 hd ?_
    exact hK _ _ _ _ _ h ad H locs ls h1 h2 h3 (scl.cons trivial h4.tl.tl) h5 h6 h7 hP hD hS hl
  · exact h.elim
def o_iand (n : Nat) : WOp := fun K Q L st M b => match st with
  | .int y :: .int x :: st1 => K n L (.int (x &&& y) :: st1) M b
  | _ => False
theorem s_o_iand {d : TrD} {G : GX} {pc : Nat} (hd : decode d.2.1 pc = .ok (.iand, 1)) : Snd d G pc (o_iand (pc + 1)) := by
  intro p l e R s m args below meth c Z D cy ex A n0 ad0 Q C g K hK L st M b h ad H locs ls h1 h2 h3 h4 h5 h6 h7 hP hD hS hl
  unfold o_iand at h
  split at h
  · rename_i y x st1
    skip
    refine lv_iand C.1 C.2.1 hd ?_
    exact hK _ _ _ _ _ h ad H locs ls h1 h2 h3 (scl.cons trivial h4.tl.tl) h5 h6 h7 hP hD hS hl
  · exact h.elim
def o_idiv (n : Nat) : WOp := fun K Q L st M b => match st with
  | .int y :: .int x :: st1 => ¬ y = 0 ∧ K n L (.int (x / y) :: st1) M b
  | _ => False
theorem s_o_idiv {d : TrD} {G : GX} {pc : Nat} (hd : decode d.2.1 pc = .ok (.idiv, 1)) : Snd d G pc (o_idiv (pc + 1)) := by
  intro p l e R s m args below meth c Z D cy ex A n0 ad0 Q C g K hK L st M b h ad H locs ls h1 h2 h3 h4 h5 h6 h7 hP hD hS hl
  unfold o_idiv at h
  split at h
  · rename_i y x st1
    skip
    refine lv_idiv C.1 C.2.1 hd h.1 ?_
    exact hK _ _ _ _ _ h.2 ad H locs ls h1 h2 h3 (scl.cons trivial h4.tl.tl) h5 h6 h7 hP hD hS hl
  · exact h.elim
def o_irem (n : Nat) : WOp := fun K Q L st M b => match st with
  | .int y :: .int x :: st1 => ¬ y = 0 ∧ K n L (.int (x % y) :: st1) M b
  | _ => False
theorem s_o_irem {d : TrD} {G : GX} {pc : Nat} (hd : decode d.2.1 pc = .ok (.irem, 1)) : Snd d G pc (o_irem (pc + 1)) := by
  intro p l e R s m args below meth c Z D cy ex A n0 ad0 Q C g K hK L st M b h ad H locs ls h1 h2 h3 h4 h5 h6 h7 hP hD hS hl
  unfold o_irem at h
  split at h
  · rename_i y x st1
    refine lv_irem C.1 C.2.1 hd h.1 ?_
    rw [irem_eq_mod]
    exact hK _ _ _ _ _ h.2 ad H locs ls h1 h2 h3 (scl.cons trivial h4.tl.tl) h5 h6 h7 hP hD hS hl
  · exact h.elim
def o_ineg (n : Nat) : WOp := fun K Q L st M b => match st with
  | .int x :: st1 => K n L (.int (-x) :: st1) M b
  | _ => False
theorem s_o_ineg {d : TrD} {G : GX} {pc : Nat} (hd : decode d.2.1 pc = .ok (.ineg, 1)) : Snd d G pc (o_ineg (pc + 1)) := by
  intro p l e R s m args below meth c Z D cy ex A n0 ad0 Q C g K hK L st M b h ad H locs ls h1 h2 h3 h4 h5 h6 h7 hP hD hS hl
  unfold o_ineg at h
  split at h
  · rename_i x st1
    skip
    refine lv_ineg C.1 C.2.1 hd ?_
    exact hK _ _ _ _ _ h ad H locs ls h1 h2 h3 (scl.cons trivial h4.tl) h5 h6 h7 hP hD hS hl
  · exact h.elim
def o_ladd (n : Nat) : WOp := fun K Q L st M b => match st with
  | .long y :: .long x :: st1 => K n L (.long (x + y) :: st1) M b
  | _ => False
theorem s_o_ladd {d : TrD} {G : GX} {pc : Nat} (hd : decode d.2.1 pc = .ok (.ladd, 1)) : Snd d G pc (o_ladd (pc + 1)) := by
  intro p l e R s m args below meth c Z D cy ex A n0 ad0 Q C g K hK L st M b h ad H locs ls h1 h2 h3 h4 h5 h6 h7 hP hD hS hl
  unfold o_ladd at h
  split at h
  · rename_i y x st1
    skip
    refine lv_ladd C.1 C.2.1 hd ?_
    exact hK _ _ _ _ _ h ad H locs ls h1 h2 h3 (scl.cons trivial h4.tl.tl) h5 h6 h7 hP hD hS hl
  · exact h.elim
def o_lmul (n : Nat) : WOp := fun K Q L st M b => match st with
  | .long y :: .long x :: st1 => K n L (.long (x * y) :: st1) M b
  | _ => False
theorem s_o_lmul {d : TrD} {G : GX} {pc : Nat} (hd : decode d.2.1 pc = .ok (.lmul, 1)) : Snd d G pc (o_lmul (pc + 1)) := by
  intro p l e R s m args below meth c Z D cy ex A n0 ad0 Q C g K hK L st M b h ad H locs ls h1 h2 h3 h4 h5 h6 h7 hP hD hS hl
  unfold o_lmul at h
  split at h
  · rename_i y x st1
    skip
    refine lv_lmul C.1 C.2.1 hd ?_
    exact hK _ _ _ _ _ h ad H locs ls h1 h2 h3 (scl.cons trivial h4.tl.tl) h5 h6 h7 hP hD hS hl
  · exact h.elim
def o_lcmp (n : Nat) : WOp := fun K Q L st M b => match st with
  | .long y :: .long x :: st1 => K n L (.int (lg_cmp x y) :: st1) M b
  | _ => False
theorem s_o_lcmp {d : TrD} {G : GX} {pc : Nat} (hd : decode d.2.1 pc = .ok (.lcmp, 1)) : Snd d G pc (o_lcmp (pc + 1)) := by
  intro p l e R s m args below meth c Z D cy ex A n0 ad0 Q C g K hK L st M b h ad H locs ls h1 h2 h3 h4 h5 h6 h7 hP hD hS hl
  unfold o_lcmp at h
  split at h
  · rename_i y x st1
    skip
    refine W.lcmp C.1 C.2.1 hd ?_
    exact hK _ _ _ _ _ h ad H locs ls h1 h2 h3 (scl.cons trivial h4.tl.tl) h5 h6 h7 hP hD hS hl
  · exact h.elim
def o_i2l (n : Nat) : WOp := fun K Q L st M b => match st with
  | .int x :: st1 => K n L (.long x.toInt64 :: st1) M b
  | _ => False
theorem s_o_i2l {d : TrD} {G : GX} {pc : Nat} (hd : decode d.2.1 pc = .ok (.i2l, 1)) : Snd d G pc (o_i2l (pc + 1)) := by
  intro p l e R s m args below meth c Z D cy ex A n0 ad0 Q C g K hK L st M b h ad H locs ls h1 h2 h3 h4 h5 h6 h7 hP hD hS hl
  unfold o_i2l at h
  split at h
  · rename_i x st1
    skip
    refine lv_i2l C.1 C.2.1 hd rfl ?_
    exact hK _ _ _ _ _ h ad H locs ls h1 h2 h3 (scl.cons trivial h4.tl) h5 h6 h7 hP hD hS hl
  · exact h.elim
def o_i2b (n : Nat) : WOp := fun K Q L st M b => match st with
  | .int x :: st1 => K n L (.int x.toInt8.toInt32 :: st1) M b
  | _ => False
theorem s_o_i2b {d : TrD} {G : GX} {pc : Nat} (hd : decode d.2.1 pc = .ok (.i2b, 1)) : Snd d G pc (o_i2b (pc + 1)) := by
  intro p l e R s m args below meth c Z D cy ex A n0 ad0 Q C g K hK L st M b h ad H locs ls h1 h2 h3 h4 h5 h6 h7 hP hD hS hl
  unfold o_i2b at h
  split at h
  · rename_i x st1
    skip
    refine lv_i2b C.1 C.2.1 hd rfl ?_
    exact hK _ _ _ _ _ h ad H locs ls h1 h2 h3 (scl.cons trivial h4.tl) h5 h6 h7 hP hD hS hl
  · exact h.elim
def o_dup (n : Nat) : WOp := fun K Q L st M b => match st with
  | v :: st1 => match Nat.beq v.category 1 with
    | true => K n L (v :: v :: st1) M b
    | false => False
  | _ => False
theorem s_o_dup {d : TrD} {G : GX} {pc : Nat} (hd : decode d.2.1 pc = .ok (.dup, 1)) : Snd d G pc (o_dup (pc + 1)) := by
  intro p l e R s m args below meth c Z D cy ex A n0 ad0 Q C g K hK L st M b h ad H locs ls h1 h2 h3 h4 h5 h6 h7 hP hD hS hl
  unfold o_dup at h
  split at h
  · rename_i v st1
    split at h
    · rename_i hc
      refine lv_dup C.1 C.2.1 hd (by rw [xv_cat]; exact Nat.eq_of_beq_eq_true hc) ?_
      exact hK _ _ _ _ _ h ad H locs ls h1 h2 h3 (scl.cons h4.hd h4) h5 h6 h7 hP hD hS hl
    · exact h.elim
  · exact h.elim
def o_pop (n : Nat) : WOp := fun K Q L st M b => match st with
  | v :: st1 => match Nat.beq v.category 1 with
    | true => K n L st1 M b
    | false => False
  | _ => False
theorem s_o_pop {d : TrD} {G : GX} {pc : Nat} (hd : decode d.2.1 pc = .ok (.pop, 1)) : Snd d G pc (o_pop (pc + 1)) := by
  intro p l e R s m args below meth c Z D cy ex A n0 ad0 Q C g K hK L st M b h ad H locs ls h1 h2 h3 h4 h5 h6 h7 hP hD hS hl
  unfold o_pop at h
  split at h
  · rename_i v st1
    split at h
    · rename_i hc
      refine lv_pop C.1 C.2.1 hd (by rw [xv_cat]; exact Nat.eq_of_beq_eq_true hc) ?_
      exact hK _ _ _ _ _ h ad H locs ls h1 h2 h3 h4.tl h5 h6 h7 hP hD hS hl
    · exact h.elim
  · exact h.elim
def o_dup2 (n : Nat) : WOp := fun K Q L st M b => match st with
  | v :: w :: st1 => match Nat.beq v.category 1, Nat.beq w.category 1 with
    | true, true => K n L (v :: w :: v :: w :: st1) M b
    | _, _ => False
  | _ => False
theorem s_o_dup2 {d : TrD} {G : GX} {pc : Nat} (hd : decode d.2.1 pc = .ok (.dup2, 1)) : Snd d G pc (o_dup2 (pc + 1)) := by
  intro p l e R s m args below meth c Z D cy ex A n0 ad0 Q C g K hK L st M b h ad H locs ls h1 h2 h3 h4 h5 h6 h7 hP hD hS hl
  unfold o_dup2 at h
  split at h
  · rename_i v w st1
    split at h
    · rename_i hc hc2
      refine lv_dup2_11 C.1 C.2.1 hd (by rw [xv_cat]; exact Nat.eq_of_beq_eq_true hc) (by rw [xv_cat]; exact Nat.eq_of_beq_eq_true hc2) ?_
      exact hK _ _ _ _ _ h ad H locs ls h1 h2 h3 (scl.cons h4.hd (scl.cons h4.tl.hd h4)) h5 h6 h7 hP hD hS hl
    · exact h.elim
  · exact h.elim
def o_if_eq (t n : Nat) : WOp := fun K Q L st M b => match st with
  | .int x :: st1 => (x = 0 → K t L st1 M b) ∧ (¬ x = 0 → K n L st1 M b)
  | _ => False
theorem s_o_if_eq {d : TrD} {G : GX} {pc : Nat} {off : Int} {t : Nat} (hd : decode d.2.1 pc = .ok (.ifCond .eq off, 3)) (ht : (pc : Int) + off = (t : Int)) : Snd d G pc (o_if_eq t (pc + 3)) := by
  intro p l e R s m args below meth c Z D cy ex A n0 ad0 Q C g K hK L st M b h ad H locs ls h1 h2 h3 h4 h5 h6 h7 hP hD hS hl
  unfold o_if_eq at h
  split at h
  · rename_i x st1
    refine lv_if_eq C.1 C.2.1 hd ht (fun q => ?_) (fun q => ?_)
    · exact hK _ _ _ _ _ (h.1 q) ad H locs ls h1 h2 h3 h4.tl h5 h6 h7 hP hD hS hl
    · exact hK _ _ _ _ _ (h.2 q) ad H locs ls h1 h2 h3 h4.tl h5 h6 h7 hP hD hS hl
  · exact h.elim
def o_if_ne (t n : Nat) : WOp := fun K Q L st M b => match st with
  | .int x :: st1 => (¬ x = 0 → K t L st1 M b) ∧ (x = 0 → K n L st1 M b)
  | _ => False
theorem s_o_if_ne {d : TrD} {G : GX} {pc : Nat} {off : Int} {t : Nat} (hd : decode d.2.1 pc = .ok (.ifCond .ne off, 3)) (ht : (pc : Int) + off = (t : Int)) : Snd d G pc (o_if_ne t (pc + 3)) := by
  intro p l e R s m args below meth c Z D cy ex A n0 ad0 Q C g K hK L st M b h ad H locs ls h1 h2 h3 h4 h5 h6 h7 hP hD hS hl
  unfold o_if_ne at h
  split at h
  · rename_i x st1
    refine lv_if_ne C.1 C.2.1 hd ht (fun q => ?_) (fun q => ?_)
    · exact hK _ _ _ _ _ (h.1 q) ad H locs ls h1 h2 h3 h4.tl h5 h6 h7 hP hD hS hl
    · exact hK _ _ _ _ _ (h.2 q) ad H locs ls h1 h2 h3 h4.tl h5 h6 h7 hP hD hS hl
  · exact h.elim
def o_if_lt (t n : Nat) : WOp := fun K Q L st M b => match st with
  | .int x :: st1 => (x < 0 → K t L st1 M b) ∧ (¬ x < 0 → K n L st1 M b)
  | _ => False
theorem s_o_if_lt {d : TrD} {G : GX} {pc : Nat} {off : Int} {t : Nat} (hd : decode d.2.1 pc = .ok (.ifCond .lt off, 3)) (ht : (pc : Int) + off = (t : Int)) : Snd d G pc (o_if_lt t (pc + 3)) := by
  intro p l e R s m args below meth c Z D cy ex A n0 ad0 Q C g K hK L st M b h ad H locs ls h1 h2 h3 h4 h5 h6 h7 hP hD hS hl
  unfold o_if_lt at h
  split at h
  · rename_i x st1
    refine lv_if_lt C.1 C.2.1 hd ht (fun q => ?_) (fun q => ?_)
    · exact hK _ _ _ _ _ (h.1 q) ad H locs ls h1 h2 h3 h4.tl h5 h6 h7 hP hD hS hl
    · exact hK _ _ _ _ _ (h.2 q) ad H locs ls h1 h2 h3 h4.tl h5 h6 h7 hP hD hS hl
  · exact h.elim
def o_if_ge (t n : Nat) : WOp := fun K Q L st M b => match st with
  | .int x :: st1 => (0 ≤ x → K t L st1 M b) ∧ (¬ 0 ≤ x → K n L st1 M b)
  | _ => False
theorem s_o_if_ge {d : TrD} {G : GX} {pc : Nat} {off : Int} {t : Nat} (hd : decode d.2.1 pc = .ok (.ifCond .ge off, 3)) (ht : (pc : Int) + off = (t : Int)) : Snd d G pc (o_if_ge t (pc + 3)) := by
  intro p l e R s m args below meth c Z D cy ex A n0 ad0 Q C g K hK L st M b h ad H locs ls h1 h2 h3 h4 h5 h6 h7 hP hD hS hl
  unfold o_if_ge at h
  split at h
  · rename_i x st1
    refine lv_if_ge C.1 C.2.1 hd ht (fun q => ?_) (fun q => ?_)
    · exact hK _ _ _ _ _ (h.1 q) ad H locs ls h1 h2 h3 h4.tl h5 h6 h7 hP hD hS hl
    · exact hK _ _ _ _ _ (h.2 q) ad H locs ls h1 h2 h3 h4.tl h5 h6 h7 hP hD hS hl
  · exact h.elim
def o_if_gt (t n : Nat) : WOp := fun K Q L st M b => match st with
  | .int x :: st1 => (0 < x → K t L st1 M b) ∧ (¬ 0 < x → K n L st1 M b)
  | _ => False
theorem s_o_if_gt {d : TrD} {G : GX} {pc : Nat} {off : Int} {t : Nat} (hd : decode d.2.1 pc = .ok (.ifCond .gt off, 3)) (ht : (pc : Int) + off = (t : Int)) : Snd d G pc (o_if_gt t (pc + 3)) := by
  intro p l e R s m args below meth c Z D cy ex A n0 ad0 Q C g K hK L st M b h ad H locs ls h1 h2 h3 h4 h5 h6 h7 hP hD hS hl
  unfold o_if_gt at h
  split at h
  · rename_i x st1
    refine lv_if_gt C.1 C.2.1 hd ht (fun q => ?_) (fun q => ?_)
    · exact hK _ _ _ _ _ (h.1 q) ad H locs ls h1 h2 h3 h4.tl h5 h6 h7 hP hD hS hl
    · exact hK _ _ _ _ _ (h.2 q) ad H locs ls h1 h2 h3 h4.tl h5 h6 h7 hP hD hS hl
  · exact h.elim
def o_if_le (t n : Nat) : WOp := fun K Q L st M b => match st with
  | .int x :: st1 => (x ≤ 0 → K t L st1 M b) ∧ (¬ x ≤ 0 → K n L st1 M b)
  | _ => False
theorem s_o_if_le {d : TrD} {G : GX} {pc : Nat} {off : Int} {t : Nat} (hd : decode d.2.1 pc = .ok (.ifCond .le off, 3)) (ht : (pc : Int) + off = (t : Int)) : Snd d G pc (o_if_le t (pc + 3)) := by
  intro p l e R s m args below meth c Z D cy ex A n0 ad0 Q C g K hK L st M b h ad H locs ls h1 h2 h3 h4 h5 h6 h7 hP hD hS hl
  unfold o_if_le at h
  split at h
  · rename_i x st1
    refine lv_if_le C.1 C.2.1 hd ht (fun q => ?_) (fun q => ?_)
    · exact hK _ _ _ _ _ (h.1 q) ad H locs ls h1 h2 h3 h4.tl h5 h6 h7 hP hD hS hl
    · exact hK _ _ _ _ _ (h.2 q) ad H locs ls h1 h2 h3 h4.tl h5 h6 h7 hP hD hS hl
  · exact h.elim
def o_icmp_eq (t n : Nat) : WOp := fun K Q L st M b => match st with
  | .int y :: .int x :: st1 => (x = y → K t L st1 M b) ∧ (¬ x = y → K n L st1 M b)
  | _ => False
theorem s_o_icmp_eq {d : TrD} {G : GX} {pc : Nat} {off : Int} {t : Nat} (hd : decode d.2.1 pc = .ok (.if_icmp .eq off, 3)) (ht : (pc : Int) + off = (t : Int)) : Snd d G pc (o_icmp_eq t (pc + 3)) := by
  intro p l e R s m args below meth c Z D cy ex A n0 ad0 Q C g K hK L st M b h ad H locs ls h1 h2 h3 h4 h5 h6 h7 hP hD hS hl
  unfold o_icmp_eq at h
  split at h
  · rename_i y x st1
    refine lv_icmp_eq C.1 C.2.1 hd ht (fun q => ?_) (fun q => ?_)
    · exact hK _ _ _ _ _ (h.1 q) ad H locs ls h1 h2 h3 h4.tl.tl h5 h6 h7 hP hD hS hl
    · exact hK _ _ _ _ _ (h.2 q) ad H locs ls h1 h2 h3 h4.tl.tl h5 h6 h7 hP hD hS hl
  · exact h.elim
def o_icmp_ne (t n : Nat) : WOp := fun K Q L st M b => match st with
  | .int y :: .int x :: st1 => (¬ x = y → K t L st1 M b) ∧ (x = y → K n L st1 M b)
  | _ => False
theorem s_o_icmp_ne {d : TrD} {G : GX} {pc : Nat} {off : Int} {t : Nat} (hd : decode d.2.1 pc = .ok (.if_icmp .ne off, 3)) (ht : (pc : Int) + off = (t : Int)) : Snd d G pc (o_icmp_ne t (pc + 3)) := by
  intro p l e R s m args below meth c Z D cy ex A n0 ad0 Q C g K hK L st M b h ad H locs ls h1 h2 h3 h4 h5 h6 h7 hP hD hS hl
  unfold o_icmp_ne at h
  split at h
  · rename_i y x st1
    refine lv_icmp_ne C.1 C.2.1 hd ht (fun q => ?_) (fun q => ?_)
    · exact hK _ _ _ _ _ (h.1 q) ad H locs ls h1 h2 h3 h4.tl.tl h5 h6 h7 hP hD hS hl
    · exact hK _ _ _ _ _ (h.2 q) ad H locs ls h1 h2 h3 h4.tl.tl h5 h6 h7 hP hD hS hl
  · exact h.elim
def o_icmp_lt (t n : Nat) : WOp := fun K Q L st M b => match st with
  | .int y :: .int x :: st1 => (x < y → K t L st1 M b) ∧ (¬ x < y → K n L st1 M b)
  | _ => False
theorem s_o_icmp_lt {d : TrD} {G : GX} {pc : Nat} {off : Int} {t : Nat} (hd : decode d.2.1 pc = .ok (.if_icmp .lt off, 3)) (ht : (pc : Int) + off = (t : Int)) : Snd d G pc (o_icmp_lt t (pc + 3)) := by
  intro p l e R s m args below meth c Z D cy ex A n0 ad0 Q C g K hK L st M b h ad H locs ls h1 h2 h3 h4 h5 h6 h7 hP hD hS hl
  unfold o_icmp_lt at h
  split at h
  · rename_i y x st1
    refine lv_icmp_lt C.1 C.2.1 hd ht (fun q => ?_) (fun q => ?_)
    · exact hK _ _ _ _ _ (h.1 q) ad H locs ls h1 h2 h3 h4.tl.tl h5 h6 h7 hP hD hS hl
    · exact hK _ _ _ _ _ (h.2 q) ad H locs ls h1 h2 h3 h4.tl.tl h5 h6 h7 hP hD hS hl
  · exact h.elim
def o_icmp_ge (t n : Nat) : WOp := fun K Q L st M b => match st with
  | .int y :: .int x :: st1 => (y ≤ x → K t L st1 M b) ∧ (¬ y ≤ x → K n L st1 M b)
  | _ => False
theorem s_o_icmp_ge {d : TrD} {G : GX} {pc : Nat} {off : Int} {t : Nat} (hd : decode d.2.1 pc = .ok (.if_icmp .ge off, 3)) (ht : (pc : Int) + off = (t : Int)) : Snd d G pc (o_icmp_ge t (pc + 3)) := by
  intro p l e R s m args below meth c Z D cy ex A n0 ad0 Q C g K hK L st M b h ad H locs ls h1 h2 h3 h4 h5 h6 h7 hP hD hS hl
  unfold o_icmp_ge at h
  split at h
  · rename_i y x st1
    refine lv_icmp_ge C.1 C.2.1 hd ht (fun q => ?_) (fun q => ?_)
    · exact hK _ _ _ _ _ (h.1 q) ad H locs ls h1 h2 h3 h4.tl.tl h5 h6 h7 hP hD hS hl
    · exact hK _ _ _ _ _ (h.2 q) ad H locs ls h1 h2 h3 h4.tl.tl h5 h6 h7 hP hD hS hl
  · exact h.elim
def o_icmp_gt (t n : Nat) : WOp := fun K Q L st M b => match st with
  | .int y :: .int x :: st1 => (y < x → K t L st1 M b) ∧ (¬ y < x → K n L st1 M b)
  | _ => False
theorem s_o_icmp_gt {d : TrD} {G : GX} {pc : Nat} {off : Int} {t : Nat} (hd : decode d.2.1 pc = .ok (.if_icmp .gt off, 3)) (ht : (pc : Int) + off = (t : Int)) : Snd d G pc (o_icmp_gt t (pc + 3)) := by
  intro p l e R s m args below meth c Z D cy ex A n0 ad0 Q C g K hK L st M b h ad H locs ls h1 h2 h3 h4 h5 h6 h7 hP hD hS hl
  unfold o_icmp_gt at h
  split at h
  · rename_i y x st1
    refine lv_icmp_gt C.1 C.2.1 hd ht (fun q => ?_) (fun q => ?_)
    · exact hK _ _ _ _ _ (h.1 q) ad H locs ls h1 h2 h3 h4.tl.tl h5 h6 h7 hP hD hS hl
    · exact hK _ _ _ _ _ (h.2 q) ad H locs ls h1 h2 h3 h4.tl.tl h5 h6 h7 hP hD hS hl
  · exact h.elim
def o_icmp_le (t n : Nat) : WOp := fun K Q L st M b => match st with
  | .int y :: .int x :: st1 => (x ≤ y → K t L st1 M b) ∧ (¬ x ≤ y → K n L st1 M b)
  | _ => False
theorem s_o_icmp_le {d : TrD} {G : GX} {pc : Nat} {off : Int} {t : Nat} (hd : decode d.2.1 pc = .ok (.if_icmp .le off, 3)) (ht : (pc : Int) + off = (t : Int)) : Snd d G pc (o_icmp_le t (pc + 3)) := by
  intro p l e R s m args below meth c Z D cy ex A n0 ad0 Q C g K hK L st M b h ad H locs ls h1 h2 h3 h4 h5 h6 h7 hP hD hS hl
  unfold o_icmp_le at h
  split at h
  · rename_i y x st1
    refine lv_icmp_le C.1 C.2.1 hd ht (fun q => ?_) (fun q => ?_)
    · exact hK _ _ _ _ _ (h.1 q) ad H locs ls h1 h2 h3 h4.tl.tl h5 h6 h7 hP hD hS hl
    · exact hK _ _ _ _ _ (h.2 q) ad H locs ls h1 h2 h3 h4.tl.tl h5 h6 h7 hP hD hS hl
  · exact h.elim
def o_goto (t : Nat) : WOp := fun K Q L st M b => K t L st M b
theorem s_o_goto {d : TrD} {G : GX} {pc : Nat} {off : Int} {t : Nat} (hd : decode d.2.1 pc = .ok (.goto off, 3)) (ht : (pc : Int) + off = (t : Int)) : Snd d G pc (o_goto t) := by
  intro p l e R s m args below meth c Z D cy ex A n0 ad0 Q C g K hK L st M b h ad H locs ls h1 h2 h3 h4 h5 h6 h7 hP hD hS hl
  refine lv_goto C.1 C.2.1 hd ht ?_
  exact hK _ _ _ _ _ h ad H locs ls h1 h2 h3 h4 h5 h6 h7 hP hD hS hl
