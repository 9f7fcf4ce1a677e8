/-! ===== a triple out of sound code ===== -/
def Clo (code : Nat → WOp) (Q : AQ) (X : WK) : Prop :=
  (∀ K : WK, (∀ pc L st M b, K pc L st M b → X pc L st M b) → ∀ (pc : Nat) (L : AL) (st : List Value) (M : AM) (b : AB), code pc K Q L st M b → X pc L st M b) ∧
  (∀ (pc : Nat) (L L' : AL) (st : List Value) (M : AM) (b : AB), (∀ (i : Nat) (v : Value), L'[i]? = some (some v) → L[i]? = some (some v)) → X pc L' st M b → X pc L st M b)
def entV (v : Value) : AL := match v with
  | .long _ => [some v, none]
  | .double _ => [some v, none]
  | _ => [some v]
def entL (n : Nat) (a : List Value) : AL := a.flatMap entV ++ List.replicate (n - (a.flatMap entV).length) none
theorem entV_xl {ad ex : Nat → Nat} : ∀ (a : List Value) (i k : Nat) (v : Value), (a.flatMap entV)[k]? = some (some v) → (i + k, xv ad ex v) ∈ lv_args i (a.map (xv ad ex))
  | [], i, k, v, h => by simp at h
  | w :: a, i, k, v, h => by
    rw [List.flatMap_cons] at h
    rw [List.map_cons]
    show _ ∈ (i, xv ad ex w) :: lv_args (if (xv ad ex w).category = 2 then i + 2 else i + 1) (a.map (xv ad ex))
    rw [xv_cat]
    by_cases hc : w.category = 2
    · have e : entV w = [some w, none] := by cases w <;> first | rfl | cases hc
      rw [e] at h
      rw [if_pos hc]
      match k, h with
      | 0, h => cases h; exact List.mem_cons_self
      | 1, h => cases h
      | k + 2, h =>
        have := entV_xl (ad := ad) (ex := ex) a (i + 2) k v h
        rw [show i + 2 + k = i + (k + 2) by omega] at this
        exact List.mem_cons_of_mem _ this
    · have e : entV w = [some w] := by cases w <;> first | rfl | exact absurd rfl hc
      rw [e] at h
      rw [if_neg hc]
      match k, h with
      | 0, h => cases h; exact List.mem_cons_self
      | k + 1, h =>
        have := entV_xl (ad := ad) (ex := ex) a (i + 1) k v h
        rw [show i + 1 + k = i + (k + 1) by omega] at this
        exact List.mem_cons_of_mem _ this
theorem entL_at {n : Nat} {a : List Value} {k : Nat} {v : Value} (h : (entL n a)[k]? = some (some v)) : (a.flatMap entV)[k]? = some (some v) := by
  unfold entL at h
  rw [List.getElem?_append] at h
  split at h
  · exact h
  · have := List.mem_of_getElem? h
    rw [List.mem_replicate] at this
    cases this.2
theorem entL_len {ad ex : Nat → Nat} : ∀ a : List Value, (lg_sl (a.map (xv ad ex))).length = (a.flatMap entV).length
  | [] => rfl
  | w :: a => by
    rw [List.map_cons, List.flatMap_cons, List.length_append]
    show (List.flatMap _ (xv ad ex w :: a.map (xv ad ex))).length = _
    rw [List.flatMap_cons, List.length_append]
    have ih := entL_len (ad := ad) (ex := ex) a
    unfold lg_sl at ih
    rw [ih, xv_cat]
    congr 1
    cases w <;> rfl
theorem entL_cl {n m : Nat} {a : List Value} (h : scl m a) : lcl m (entL n a) := by
  intro i v hv
  have h1 := List.mem_of_getElem? (entL_at hv)
  obtain ⟨w, hw, hv2⟩ := List.mem_flatMap.mp h1
  have : v = w := by cases w <;> simp [entV] at hv2 <;> exact hv2
  rw [this]
  exact h w hw
theorem Tr.of {d : TrD} {mc ms : Nat} {a : List Value} {M : AM} {Q : AQ} {code : Nat → WOp} (hs : ∀ pc, Snd d (fun _ _ _ => True) pc (code pc)) (hy : plainName d.1.cls = true) (hn : (a.flatMap entV).length ≤ d.2.2.1)
    (body : ∀ X : WK, Clo code Q X → X 0 (entL d.2.2.1 a) [] M (mc, ms)) : Tr d mc ms a M Q := by
  intro hM ha l D cy ex ad sz hl0
  refine vx_ofW (cc := d.2.1) (maxL := d.2.2.1) (ret := d.2.2.2.1) hy rfl ?_
  intro p e s m args below meth c s₁ B hml ht hv
  obtain ⟨rfl, hsz, hP, hK, hD0, hE⟩ := hv
  have hb := B.bytes
  have hts := atoms_spec (ws := wsOf d) B.pre
  have hlocks := B.notSynchronized
  subst hsz
  have hD := hD0.self (sz := s.heap.size)
  generalize hAe : va_A (xw cy ad ex M) s.heap.size = A at hD hE ⊢
  have hA : ∀ q : Nat, s.heap.size ≤ q → A q := fun q h => by rw [← hAe]; exact Or.inr h
  have C : Cx d p l e (rmOf d mc ms) s m ((a.map (xv ad ex)).toArray) below meth c (vx_MQ below (TRet D cy ex ad M A Q) (TThr D cy ex ad M A Q) ((a.map (xv ad ex)).toArray) s mc ms A) D cy ex A M.length ad Q := by
    refine ⟨B.exec, hb, hml, findClass_of_methodNamed B.named, fun w hw => hts w (List.mem_cons_of_mem _ hw), hK, hE, hA, rfl, rfl, fun h => (name_of_methodNamed B.named B.method).1.trans h, hl0, ?_⟩
    have fin : ∀ (v : Option Value) (M' : AM) (ad' : Nat → Nat) (H : Heap) (locs : List Loc), Q (.inl v) M' → Agr M.length ad ad' → M.length ≤ M'.length → mcl M' → (∀ w, v = some w → vcl M'.length w) → va_P D vwCl (xw cy ad' ex M') H → va_D A (xw cy ad' ex M') → va_S A s.heap H locs → ∀ t : State, t.heap = H → s.WarmedH t.vm → TRet D cy ex ad M A Q ((a.map (xv ad ex)).toArray) s (.returned (v.map (xv ad' ex))) t := by
      intro v M' ad' H locs hQ h1 h2 h3 h4 hP' hD' hS' t htH hW
      exact ⟨⟨ad', v, M', rfl, hQ, h1, h2, h3, h4, by rw [htH]; exact hP', hD'⟩, hS'.F htH⟩
    refine ⟨?_, ?_, ?_, ?_, ?_, ?_⟩
    · intro pc L x M' b hd hr hQ ad' H locs ls h1 h2 h3 h4 h5 h6 h7 hP' hD' hS' hl'
      obtain ⟨ty, hr1, hr2⟩ := hr
      refine W.widen (k := mc) (n := ms) (Nat.sub_le _ _) (Nat.sub_le _ _) (vx_ret ?_)
      exact W.zret (v := x) B.exec hb (B.returns.trans hr1) hr2 (fin (some (.int x)) M' ad' H locs hQ h1 h2 h3 (fun w hw => by cases hw; exact trivial) hP' hD' hS') hS'.2.2 hd
    · intro pc L x M' b hd hr hQ ad' H locs ls h1 h2 h3 h4 h5 h6 h7 hP' hD' hS' hl'
      refine W.widen (k := mc) (n := ms) (Nat.sub_le _ _) (Nat.sub_le _ _) (vx_ret ?_)
      exact W.lret (v := x) B.exec hb (B.returns.trans hr) (fin (some (.long x)) M' ad' H locs hQ h1 h2 h3 (fun w hw => by cases hw; exact trivial) hP' hD' hS') hS'.2.2 hd
    · intro pc L u M' b hd hr hQ ad' H locs ls h1 h2 h3 h4 h5 h6 h7 hP' hD' hS' hl'
      obtain ⟨n, hr1⟩ := hr
      refine W.widen (k := mc) (n := ms) (Nat.sub_le _ _) (Nat.sub_le _ _) (vx_ret ?_)
      exact W.aret (v := .ref (ex u.toNat)) (rt := .object n) B.exec hb (B.returns.trans hr1) (Or.inl ⟨n, rfl⟩) (Or.inr ⟨_, rfl⟩) (fin (some (.float u)) M' ad' H locs hQ h1 h2 h3 (fun w hw => by cases hw; exact trivial) hP' hD' hS') hS'.2.2 hd
    · intro pc L M' b hd hr hQ ad' H locs ls h1 h2 h3 h4 h5 h6 h7 hP' hD' hS' hl'
      refine W.widen (k := mc) (n := ms) (Nat.sub_le _ _) (Nat.sub_le _ _) (vx_ret ?_)
      exact W.vret B.exec hb (B.returns.trans hr) (fin none M' ad' H locs hQ h1 h2 h3 (fun w hw => by cases hw) hP' hD' hS') hS'.2.2 hd
    · intro pc E ce q H M' b ad' ls rest locs hQ h1 h2 h3 h6 h7 hP' hD' hS' hce hcv hcl
      exact vx_out (fun x hx => (ht x hx).elim) hlocks hce hcv hcl (fun t htH hal => ⟨ad', M', hQ, h1, h2, h3, by rw [htH]; exact hP', hD', hS'.F htH⟩) hS'.2.2 (Nat.sub_le _ _) (Nat.sub_le _ _)
    · intro pc ik ic cls L M' b d0 d3 d4 d7 k1 k2 k3 k4 k5 k6 k7 k8 k9 hQ ad' H locs ls h1 h2 h3 h4 h5 h6 h7 hP' hD' hS' hl'
      have g1 : (rmOf d mc ms).cells - b.1 + 1 ≤ (rmOf d mc ms).cells := by show mc - b.1 + 1 ≤ mc; have : b.1 ≤ mc := h6; omega
      have g2 : (rmOf d mc ms).slots - b.2 + 6 ≤ (rmOf d mc ms).slots := by show ms - b.2 + 6 ≤ ms; have : b.2 ≤ ms := h7; omega
      refine vx_throw0 (rest := []) B.exec hb hl0 (names := ["java/lang/RuntimeException", "java/lang/Exception"]) (findClass_of_methodNamed B.named) k1 (by decide +kernel) k2 k3 k4 k5 hE.2.2.2.2.1.1 hE.2.2.2.2.1.2 hS' (hl'.1.trans hml.symm) d0 d3 d4 d7 (fun x hx => (ht x hx).elim) k6 (by show 0 + (13 * 3 + 42) ≤ _; omega) g1 g2 hlocks ?_ hS'.2.2 g1 g2
      intro t hal hz hk
      refine ⟨ad', M', hQ, h1, h2, h3, hP'.kept (fun k x hx => hk x.1 ((hP' k x hx).lt)), hD', ⟨Nat.le_trans hS'.1 hz, fun q g1 g2 => by rw [hk q (Nat.lt_of_lt_of_le g1 hS'.1)]; exact hS'.2.1 q g1 g2⟩⟩
  have hX := body (XX p l e (rmOf d mc ms) s m ((a.map (xv ad ex)).toArray) below meth c (vx_MQ below (TRet D cy ex ad M A Q) (TThr D cy ex ad M A Q) ((a.map (xv ad ex)).toArray) s mc ms A) D cy ex A M.length ad d.2.2.1)
    ⟨fun K hK pc L st M' b h => hs pc p l e (rmOf d mc ms) s m _ below meth c _ D cy ex A M.length ad Q C trivial K hK L st M' b h,
     fun pc L L' st M' b hsub h ad' H locs ls h1 h2 h3 h4 h5 h6 h7 hP' hD' hS' hl' => h ad' H locs ls h1 h2 h3 h4 (fun i v hv => h5 i v (hsub i v hv)) h6 h7 hP' hD' hS' (xl_sub hl' hsub)⟩
  have hl1 := lv_entry (a.map (xv ad ex)) (n := d.2.2.1) (by rw [entL_len]; exact hn)
  rw [lg_entry_eq]
  have hl2 : lv_has ((lg_sl (a.map (xv ad ex)) ++ List.replicate (d.2.2.1 - (lg_sl (a.map (xv ad ex))).length) Slot.unset).toArray) d.2.2.1 (xl ad ex (entL d.2.2.1 a)) := ⟨hl1.1, hl1.2.1, fun q hq => by
    obtain ⟨v, hv1, hv2⟩ := xl_mem.mp hq
    have := entV_xl (ad := ad) (ex := ex) a 0 q.1 v (entL_at hv1)
    rw [Nat.zero_add, ← hv2] at this
    exact hl1.2.2 q this⟩
  have w := hX ad s.heap [] _ Agr.rf (Nat.le_refl _) hM (fun w hw => by cases hw) (entL_cl ha) (Nat.le_refl _) (Nat.le_refl _) hP hD va_S.rf hl2
  have e1 : (rmOf d mc ms).cells - (mc, ms).1 = 0 := Nat.sub_self mc
  have e2 : (rmOf d mc ms).slots - (mc, ms).2 = 0 := Nat.sub_self ms
  rw [e1, e2] at w
  exact w
theorem vx_conseq {l : Launch} {y : MethodName} {ws : List Cond} {rm : Room} {P P' : Array Value → State → Prop} {Qc Qc' : Array Value → State → Outcome → State → Prop} {XC XC' : String → State → State → Prop} {mc ms : Nat} {free free' : Addr → Prop} (h : vx_Met l y ws rm P Qc XC mc ms free) (hP : ∀ a s, P' a s → P a s) (hQ : ∀ a s o t, P' a s → Qc a s o t → Qc' a s o t) (hX : ∀ a E s t, P' a s → XC E s t → XC' E s t) (hf : ∀ a s, P' a s → ∀ q, free q → free' q) : vx_Met l y ws rm P' Qc' XC' mc ms free' := by
  intro p e h1 h2 h3 s m args below h4 h5 h6 h7
  obtain ⟨n, o, g1, g2, g3, g4⟩ := h p e h1 h2 h3 s m args below h4 h5 (hP _ _ h6) h7
  refine ⟨n, o, g1, g2, g3, ?_⟩
  rcases g4 with ⟨q, L, hL, hf2⟩ | ⟨q, ho, E, ce, L, hx, k1, k2, k3, k4, k5, k6⟩
  · exact Or.inl ⟨hQ _ _ _ _ h6 q, L, hL, fun z hz => hf _ _ h6 _ (hf2 z hz)⟩
  · exact Or.inr ⟨q, ho, E, ce, L, hX _ _ _ _ h6 hx, k1, k2, k3, k4, k5, fun z hz => hf _ _ h6 _ (k6 z hz)⟩
theorem met_of {l : Launch} {y : MethodName} {ws : List Cond} {rm : Room} {P : Array Value → State → Prop} {Qc Qc' : Array Value → State → Outcome → State → Prop} {XC : String → State → State → Prop} {mc ms : Nat} {free : Addr → Prop} (h : vx_Met l y ws rm P Qc XC mc ms free) (hQ : ∀ a s o t, Qc a s o t → Qc' a s o t) (hX : ∀ E s t, ¬ XC E s t) : Met l y ws rm P Qc' mc ms free := by
  intro p e h1 h2 h3 s m args below h4 h5 h6 h7
  obtain ⟨n, o, g1, g2, g3, g4⟩ := h p e h1 h2 h3 s m args below h4 h5 h6 h7
  refine ⟨n, o, g1, g2, g3, ?_⟩
  rcases g4 with ⟨q, L, hL, hf2⟩ | ⟨q, ho, E, ce, L, hx, -⟩
  · exact ⟨hQ _ _ _ _ q, L, hL, hf2⟩
  · exact absurd hx (hX _ _ _)
theorem Tr.mono {d : TrD} {mc ms : Nat} {a : List Value} {M : AM} {Q Q' : AQ} (h : Tr d mc ms a M Q) (hQ : ∀ o M', Q o M' → Q' o M') : Tr d mc ms a M Q' := by
  intro hM ha l D cy ex ad sz hl
  refine vx_conseq (h hM ha l D cy ex ad sz hl) (fun _ _ q => q) ?_ ?_ (fun _ _ _ _ q => q)
  · rintro a s o t - ⟨⟨ad', v, M', h1, h2, h3⟩, hF⟩
    exact ⟨⟨ad', v, M', h1, hQ _ _ h2, h3⟩, hF⟩
  · rintro a E s t - ⟨ad', M', h1, h2⟩
    exact ⟨ad', M', hQ _ _ h1, h2⟩
/-! walking: from a place to the next stop -/
def blk (code : Nat → WOp) (X : WK) (Q : AQ) (stop : Nat → Option Nat) : Nat → WK
  | 0 => X
  | n + 1 => fun pc L st M b => match stop pc with
    | some k => X pc (L.take k) st M b
    | none => code pc (blk code X Q stop n) Q L st M b
theorem blk_ok {code : Nat → WOp} {X : WK} {Q : AQ} (hX : Clo code Q X) {stop : Nat → Option Nat} : ∀ (n : Nat) (pc : Nat) (L : AL) (st : List Value) (M : AM) (b : AB), blk code X Q stop n pc L st M b → X pc L st M b
  | 0, _, _, _, _, _, h => h
  | n + 1, pc, L, st, M, b, h => by
    unfold blk at h
    split at h
    · rename_i k hk
      refine hX.2 pc L (L.take k) st M b (fun i v hv => ?_) h
      rw [List.getElem?_take] at hv
      split at hv
      · exact hv
      · cases hv
    · exact hX.1 _ (blk_ok hX n) _ _ _ _ _ h
theorem go {code : Nat → WOp} {X : WK} {Q : AQ} (hX : Clo code Q X) (stop : Nat → Option Nat) (n : Nat) {pc : Nat} {L : AL} {st : List Value} {M : AM} {b : AB} (h : code pc (blk code X Q stop n) Q L st M b) : X pc L st M b := hX.1 _ (blk_ok hX n) _ _ _ _ _ h
