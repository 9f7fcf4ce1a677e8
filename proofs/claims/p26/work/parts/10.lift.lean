/-! ===== a triple over a part of a bigger world ===== -/
def embF (emb : List Nat) (nb : Nat) (k : Nat) : Nat := emb.getD k (nb + (k - emb.length))
def upv (f : Nat → Nat) : Value → Value
  | .ref k => .ref (f k)
  | v => v
def upc (f : Nat → Nat) : XCn → XCn
  | .inr (.inr (.inr (.inr g))) => .inr (.inr (.inr (.inr (fun j => (g j).map f))))
  | c => c
def upo (f : Nat → Nat) : AO → AO
  | .inl (t, n, c) => .inl (t, n, upc f c)
  | .inr (ci, fs) => .inr (ci, fs.map (upv f))
def upr (f : Nat → Nat) : AR → AR
  | .inl v => .inl (v.map (upv f))
  | .inr E => .inr E
def setAll (f : Nat → Nat) : AM → List Nat → AM → AM
  | Mb, k :: ks, o :: os => setAll f (Mb.set k (upo f o)) ks os
  | Mb, _, _ => Mb
def mrg (emb : List Nat) (Mb M' : AM) : AM := setAll (embF emb Mb.length) Mb emb M' ++ (M'.drop emb.length).map (upo (embF emb Mb.length))
theorem setAll_len {f : Nat → Nat} : ∀ (Mb : AM) (ks : List Nat) (os : AM), (setAll f Mb ks os).length = Mb.length
  | Mb, k :: ks, o :: os => by
    show (setAll f (Mb.set k (upo f o)) ks os).length = _
    rw [setAll_len, List.length_set]
  | _, [], _ => by unfold setAll; rfl
  | _, _ :: _, [] => by unfold setAll; rfl
theorem setAll_ne {f : Nat → Nat} {i : Nat} : ∀ (Mb : AM) (ks : List Nat) (os : AM), i ∉ ks → (setAll f Mb ks os)[i]? = Mb[i]?
  | Mb, k :: ks, o :: os, h => by
    show (setAll f (Mb.set k (upo f o)) ks os)[i]? = _
    have hk : ¬ k = i := fun q => h (by rw [q]; exact List.mem_cons_self)
    rw [setAll_ne _ ks os (fun q => h (List.mem_cons_of_mem _ q)), List.getElem?_set, if_neg hk]
  | _, [], _, _ => by unfold setAll; rfl
  | _, _ :: _, [], _ => by unfold setAll; rfl
theorem setAll_at {f : Nat → Nat} : ∀ (Mb : AM) (ks : List Nat) (os : AM) (j k : Nat) (o : AO), (∀ i j' : Nat, ∀ a, ks[i]? = some a → ks[j']? = some a → i = j') → ks[j]? = some k → os[j]? = some o → k < Mb.length → (setAll f Mb ks os)[k]? = some (upo f o)
  | Mb, k0 :: ks, o0 :: os, 0, k, o, hn, h1, h2, h3 => by
    cases h1; cases h2
    show (setAll f (Mb.set k0 (upo f o0)) ks os)[k0]? = _
    rw [setAll_ne, List.getElem?_set, if_pos rfl, if_pos h3]
    intro q
    obtain ⟨i, hi⟩ := List.getElem?_of_mem q
    have := hn 0 (i + 1) k0 rfl hi
    omega
  | Mb, k0 :: ks, o0 :: os, j + 1, k, o, hn, h1, h2, h3 => by
    show (setAll f (Mb.set k0 (upo f o0)) ks os)[k]? = _
    exact setAll_at _ ks os j k o (fun i j' a q1 q2 => Nat.succ.inj (hn (i + 1) (j' + 1) a q1 q2)) h1 h2 (by rw [List.length_set]; exact h3)
  | Mb, k0 :: ks, [], j, k, o, hn, h1, h2, h3 => by simp at h2
  | Mb, [], os, j, k, o, hn, h1, h2, h3 => by simp at h1
theorem upv_xv {f ad ex : Nat → Nat} (v : Value) : xv ad ex (upv f v) = xv (fun k => ad (f k)) ex v := by cases v <;> rfl
theorem upo_xo {f cy ad ex : Nat → Nat} (o : AO) : xo cy ad ex (upo f o) = xo cy (fun k => ad (f k)) ex o := by
  rcases o with ⟨t, n, c⟩ | ⟨ci, fs⟩
  · rcases c with c | c | c | c | g
    · rfl
    · rfl
    · rfl
    · rfl
    · show (Sum.inl (cy t, n, Sum.inr (Sum.inr (Sum.inr (Sum.inr (fun j => ((g j).map f).map ad))))) : va_E) = Sum.inl (cy t, n, Sum.inr (Sum.inr (Sum.inr (Sum.inr (fun j => (g j).map (fun k => ad (f k)))))))
      congr 7
      funext j
      cases g j <;> rfl
  · show (Sum.inr (ci, (fs.map (upv f)).map (xv ad ex)) : va_E) = Sum.inr (ci, fs.map (xv (fun k => ad (f k)) ex))
    rw [List.map_map]
    congr 2
    exact List.map_congr_left fun v _ => upv_xv v
theorem upv_cl {f : Nat → Nat} {n m : Nat} (h : ∀ k, k < n → f k < m) {v : Value} (hv : vcl n v) : vcl m (upv f v) := by cases v <;> first | exact h _ hv | exact trivial
theorem upo_cl {f : Nat → Nat} {n m : Nat} (h : ∀ k, k < n → f k < m) {o : AO} (ho : ocl n o) : ocl m (upo f o) := by
  rcases o with ⟨t, z, c⟩ | ⟨ci, fs⟩
  · rcases c with c | c | c | c | g <;> try exact trivial
    intro j k hk
    cases hg : g j with
    | none => simp [hg] at hk
    | some q => simp [hg] at hk; rw [← hk]; exact h q (ho j q hg)
  · intro v hv
    obtain ⟨w, hw, rfl⟩ := List.mem_map.mp hv
    exact upv_cl h (ho w hw)
theorem upv_cl' {f : Nat → Nat} {n m : Nat} (h : ∀ k, f k < m → k < n) {v : Value} (hv : vcl m (upv f v)) : vcl n v := by cases v <;> first | exact h _ hv | exact trivial
theorem upo_cl' {f : Nat → Nat} {n m : Nat} (h : ∀ k, f k < m → k < n) {o : AO} (ho : ocl m (upo f o)) : ocl n o := by
  rcases o with ⟨t, z, c⟩ | ⟨ci, fs⟩
  · rcases c with c | c | c | c | g <;> try exact trivial
    intro j k hk
    exact h k (ho j (f k) (by simp [hk]))
  · intro v hv
    exact upv_cl' h (ho _ (List.mem_map.mpr ⟨v, hv, rfl⟩))
theorem xv_agr2 {ad ad' ex : Nat → Nat} {n : Nat} {v : Value} (h : ∀ k, k < n → ad k = ad' k) (hv : vcl n v) : xv ad ex v = xv ad' ex v := xv_agr (n := n) (ad := ad') (ad' := ad) h hv
/-- what the part's end says of the whole -/
theorem lift_end {D : va_G} {cy ex ad adc : Nat → Nat} {A A1 : Nat → Prop} {emb : List Nat} {M Mb M' : AM} {H0 H : Heap}
    (hlen : emb.length = M.length) (hnd : ∀ i j : Nat, ∀ a, emb[i]? = some a → emb[j]? = some a → i = j) (hin : ∀ k ∈ emb, k < Mb.length) (hMb : mcl Mb) (hle : M.length ≤ M'.length) (hM' : mcl M')
    (hP : va_P D vwCl (xw cy ad ex Mb) H0) (hD : va_D A (xw cy ad ex Mb)) (hA1 : A1 = va_A (xw cy (fun k => ad (embF emb Mb.length k)) ex M) H0.size) (hAA : ∀ q, A1 q → A q)
    (hag : Agr M.length (fun k => ad (embF emb Mb.length k)) adc) (hP1 : va_P D vwCl (xw cy adc ex M') H) (hD1 : va_D A1 (xw cy adc ex M')) (hk : ∀ q : Nat, q < H0.size → ¬ A1 q → H[q]? = H0[q]?) :
    ∃ ad' : Nat → Nat, Agr Mb.length ad ad' ∧ Mb.length ≤ (mrg emb Mb M').length ∧ mcl (mrg emb Mb M') ∧ (∀ v, vcl M'.length v → vcl (mrg emb Mb M').length (upv (embF emb Mb.length) v) ∧ xv ad' ex (upv (embF emb Mb.length) v) = xv adc ex v) ∧ va_P D vwCl (xw cy ad' ex (mrg emb Mb M')) H ∧ va_D A (xw cy ad' ex (mrg emb Mb M')) := by
  have hF : ∀ k a, emb[k]? = some a → embF emb Mb.length k = a := fun k a h => by unfold embF; rw [List.getD_eq_getElem?_getD, h]; rfl
  have hF2 : ∀ k, emb.length ≤ k → embF emb Mb.length k = Mb.length + (k - emb.length) := fun k h => by unfold embF; rw [List.getD_eq_getElem?_getD, List.getElem?_eq_none h]; rfl
  have hL : (mrg emb Mb M').length = Mb.length + (M'.length - emb.length) := by unfold mrg; rw [List.length_append, setAll_len, List.length_map, List.length_drop]
  have hFlt : ∀ k, k < M'.length → embF emb Mb.length k < (mrg emb Mb M').length := by
    intro k hk2
    rw [hL]
    by_cases h : k < emb.length
    · have h3 := List.getElem?_eq_getElem h
      rw [hF k _ h3]
      have := hin _ (List.getElem_mem h)
      omega
    · rw [hF2 k (by omega)]; omega
  obtain ⟨ad', hda⟩ : ∃ z : Nat → Nat, z = fun j => if j < Mb.length then ad j else adc (emb.length + (j - Mb.length)) := ⟨_, rfl⟩
  have hag2 : Agr Mb.length ad ad' := fun k hk2 => by rw [hda]; exact if_pos hk2
  have hcomp : ∀ k, k < M'.length → ad' (embF emb Mb.length k) = adc k := by
    intro k hk2
    by_cases h : k < emb.length
    · have h3 := List.getElem?_eq_getElem h
      have h4 := hin _ (List.getElem_mem h)
      have h5 := hag k (by omega)
      have h5' : adc k = ad (embF emb Mb.length k) := h5
      rw [h5', hF k _ h3, hag2 _ h4]
    · rw [hF2 k (by omega), hda]
      show (if _ then _ else _) = _
      rw [if_neg (by omega)]
      congr 1
      omega
  have hxv : ∀ v, vcl M'.length v → xv ad' ex (upv (embF emb Mb.length) v) = xv adc ex v := fun v hv => by
    rw [upv_xv]
    exact xv_agr (n := M'.length) (fun k hk2 => hcomp k hk2) hv
  have hxo : ∀ o, ocl M'.length o → xo cy ad' ex (upo (embF emb Mb.length) o) = xo cy adc ex o := fun o ho => by
    rw [upo_xo]
    exact xo_agr (n := M'.length) (fun k hk2 => hcomp k hk2) ho
  -- the cells by their places
  have get1 : ∀ (j : Nat) (o : AO), M'[j]? = some o → (mrg emb Mb M')[embF emb Mb.length j]? = some (upo (embF emb Mb.length) o) := by
    intro j o ho
    unfold mrg
    by_cases h : j < emb.length
    · have h3 := List.getElem?_eq_getElem h
      have h4 := hin _ (List.getElem_mem h)
      rw [hF j _ h3, List.getElem?_append_left (by rw [setAll_len]; exact h4)]
      exact setAll_at _ _ _ j _ _ hnd h3 ho h4
    · rw [hF2 j (by omega), List.getElem?_append_right (by rw [setAll_len]; omega), setAll_len, List.getElem?_map, List.getElem?_drop]
      rw [show emb.length + (Mb.length + (j - emb.length) - Mb.length) = j by omega, ho]
      rfl
  have get2 : ∀ i, (mrg emb Mb M')[i]? = none ∨ (∃ (j : Nat) (o : AO), M'[j]? = some o ∧ i = embF emb Mb.length j) ∨ (i ∉ emb ∧ i < Mb.length ∧ (mrg emb Mb M')[i]? = Mb[i]?) := by
    intro i
    by_cases h1 : i < Mb.length
    · by_cases h2 : i ∈ emb
      · obtain ⟨j, hj⟩ := List.getElem?_of_mem h2
        have hjl : j < M'.length := by have := (List.getElem?_eq_some_iff.mp hj).1; omega
        exact Or.inr (Or.inl ⟨j, _, List.getElem?_eq_getElem hjl, (hF j i hj).symm⟩)
      · refine Or.inr (Or.inr ⟨h2, h1, ?_⟩)
        unfold mrg
        rw [List.getElem?_append_left (by rw [setAll_len]; exact h1), setAll_ne _ _ _ h2]
    · by_cases h3 : i < (mrg emb Mb M').length
      · rw [hL] at h3
        refine Or.inr (Or.inl ⟨emb.length + (i - Mb.length), _, List.getElem?_eq_getElem (by omega), ?_⟩)
        rw [hF2 _ (by omega)]; omega
      · exact Or.inl (List.getElem?_eq_none (by omega))
  have hmcl : mcl (mrg emb Mb M') := by
    intro o ho
    obtain ⟨i, hi⟩ := List.getElem?_of_mem ho
    rcases get2 i with h | ⟨j, o2, h1, rfl⟩ | ⟨h1, h2, h3⟩
    · rw [h] at hi; cases hi
    · rw [get1 j o2 h1] at hi
      cases hi
      exact upo_cl hFlt (hM'.at h1)
    · rw [h3] at hi
      exact (hMb.at hi).mono (by rw [hL]; omega)
  -- the cells apart from the part
  have apart : ∀ (i : Nat), i ∉ emb → i < Mb.length → ∀ o, Mb[i]? = some o → ¬ A1 (ad i) ∧ ad i < H0.size := by
    intro i h1 h2 o ho
    have hq := xw_at (cy := cy) (ad := ad) (ex := ex) ho
    have hlt : ad i < H0.size := (hP i _ hq).lt
    refine ⟨fun z => ?_, hlt⟩
    rw [hA1] at z
    rcases z with ⟨k, e, hk2⟩ | hk2
    · rw [xw_get] at hk2
      cases hMk : M[k]? with
      | none => rw [hMk] at hk2; cases hk2
      | some o2 =>
        rw [hMk] at hk2
        have hkl : k < emb.length := by have := (List.getElem?_eq_some_iff.mp hMk).1; omega
        have h3 := List.getElem?_eq_getElem hkl
        have h4 := hin _ (List.getElem_mem hkl)
        have e1 : ad (embF emb Mb.length k) = ad i := congrArg Prod.fst (Option.some.inj hk2)
        rw [hF k _ h3] at e1
        have hq2 := xw_at (cy := cy) (ad := ad) (ex := ex) (List.getElem?_eq_getElem h4)
        have := hD.1 _ _ _ _ hq2 hq e1
        exact h1 (this ▸ List.getElem_mem hkl)
    · omega
  refine ⟨ad', hag2, by rw [hL]; omega, hmcl, fun v hv => ⟨upv_cl hFlt hv, hxv v hv⟩, ?_, ?_⟩
  · intro i q hq
    rw [xw_get] at hq
    rcases get2 i with h | ⟨j, o2, h1, rfl⟩ | ⟨h1, h2, h3⟩
    · rw [h] at hq; cases hq
    · rw [get1 j o2 h1] at hq
      have e1 : q = (adc j, xo cy adc ex o2) := by
        have := (Option.some.inj hq).symm
        rw [this]
        show (ad' (embF emb Mb.length j), xo cy ad' ex (upo (embF emb Mb.length) o2)) = _
        rw [hcomp j (List.getElem?_eq_some_iff.mp h1).1, hxo o2 (hM'.at h1)]
      rw [e1]
      exact hP1 j _ (xw_at h1)
    · rw [h3] at hq
      cases hMi : Mb[i]? with
      | none => rw [hMi] at hq; cases hq
      | some o =>
        rw [hMi] at hq
        have e1 : q = (ad i, xo cy ad ex o) := by
          have := (Option.some.inj hq).symm
          rw [this]
          show (ad' i, xo cy ad' ex o) = _
          rw [hag2 i h2, xo_agr (n := Mb.length) hag2 (hMb.at hMi)]
        obtain ⟨g1, g2⟩ := apart i h1 h2 o hMi
        rw [e1]
        exact (hP i _ (xw_at hMi)).kept (hk _ g2 g1)
  · have key : ∀ (i : Nat) (q : Nat × va_E), (xw cy ad' ex (mrg emb Mb M'))[i]? = some q → (∃ (j : Nat) (o : AO), M'[j]? = some o ∧ i = embF emb Mb.length j ∧ q.1 = adc j) ∨ (i ∉ emb ∧ i < Mb.length ∧ q.1 = ad i ∧ ∃ o, Mb[i]? = some o) := by
      intro i q hq
      rw [xw_get] at hq
      rcases get2 i with h | ⟨j, o2, h1, rfl⟩ | ⟨h1, h2, h3⟩
      · rw [h] at hq; cases hq
      · rw [get1 j o2 h1] at hq
        refine Or.inl ⟨j, o2, h1, rfl, ?_⟩
        have := (Option.some.inj hq).symm
        rw [this]
        exact hcomp j (List.getElem?_eq_some_iff.mp h1).1
      · rw [h3] at hq
        cases hMi : Mb[i]? with
        | none => rw [hMi] at hq; cases hq
        | some o =>
          rw [hMi] at hq
          refine Or.inr ⟨h1, h2, ?_, o, rfl⟩
          have := (Option.some.inj hq).symm
          rw [this]
          exact hag2 i h2
    refine ⟨fun i j x y hi hj hxy => ?_, fun i q hq => ?_⟩
    · rcases key i x hi with ⟨a, oa, ha, rfl, ea⟩ | ⟨a1, a2, ea, oa, ha⟩ <;> rcases key j y hj with ⟨b, ob, hb, rfl, eb⟩ | ⟨b1, b2, eb, ob, hb⟩
      · have : a = b := hD1.1 a b _ _ (xw_at ha) (xw_at hb) (by show adc a = adc b; rw [← ea, ← eb, hxy])
        rw [this]
      · exact absurd (by rw [← eb, ← hxy, ea]; exact hD1.2 a _ (xw_at (cy := cy) (ad := adc) (ex := ex) ha)) (apart j b1 b2 ob hb).1
      · exact absurd (by rw [← ea, hxy, eb]; exact hD1.2 b _ (xw_at (cy := cy) (ad := adc) (ex := ex) hb)) (apart i a1 a2 oa ha).1
      · exact hD.1 i j _ _ (xw_at (cy := cy) (ad := ad) (ex := ex) ha) (xw_at hb) (by show ad i = ad j; rw [← ea, ← eb, hxy])
    · rcases key i q hq with ⟨a, oa, ha, rfl, ea⟩ | ⟨a1, a2, ea, oa, ha⟩
      · rw [ea]; exact hAA _ (hD1.2 a _ (xw_at (cy := cy) (ad := adc) (ex := ex) ha))
      · rw [ea]; exact hD.2 i _ (xw_at (cy := cy) (ad := ad) (ex := ex) ha)
theorem Tr.lift {d : TrD} {mc ms : Nat} {a a' : List Value} {M Mb : AM} {Q Q' : AQ} (emb : List Nat) (h : Tr d mc ms a M Q) (hn : va_nd emb = true) (hM : emb.map (fun k => Mb[k]?) = M.map (fun o => some (upo (embF emb Mb.length) o))) (ha : a' = a.map (upv (embF emb Mb.length)))
    (hQ : ∀ o M', M.length ≤ M'.length → Q o M' → Q' (upr (embF emb Mb.length) o) (mrg emb Mb M')) : Tr d mc ms a' Mb Q' := by
  intro hcM hca l D cy ex ad sz hl
  have hlen : emb.length = M.length := by have := congrArg List.length hM; rwa [List.length_map, List.length_map] at this
  have hat : ∀ (k : Nat) (o : AO), M[k]? = some o → ∃ i, emb[k]? = some i ∧ Mb[i]? = some (upo (embF emb Mb.length) o) := by
    intro k o ho
    have h1 : (emb.map (fun k => Mb[k]?))[k]? = some (some (upo (embF emb Mb.length) o)) := by rw [hM, List.getElem?_map, ho]; rfl
    rw [List.getElem?_map] at h1
    cases hi : emb[k]? with
    | none => rw [hi] at h1; cases h1
    | some i => rw [hi] at h1; exact ⟨i, rfl, Option.some.inj h1⟩
  have hin : ∀ k ∈ emb, k < Mb.length := by
    intro k hk
    obtain ⟨j, hj⟩ := List.getElem?_of_mem hk
    have hjl : j < M.length := by have := (List.getElem?_eq_some_iff.mp hj).1; omega
    obtain ⟨i, h1, h2⟩ := hat j _ (List.getElem?_eq_getElem hjl)
    rw [hj] at h1
    cases h1
    exact (List.getElem?_eq_some_iff.mp h2).1
  have hnd := va_nd_inj emb hn
  have hback : ∀ k, embF emb Mb.length k < Mb.length → k < M.length := by
    intro k hk
    unfold embF at hk
    rw [List.getD_eq_getElem?_getD] at hk
    by_cases h2 : k < emb.length
    · omega
    · rw [List.getElem?_eq_none (by omega)] at hk
      have : Mb.length + (k - emb.length) < Mb.length := hk
      omega
  have hmM : mcl M := by
    intro o ho
    obtain ⟨k, hk⟩ := List.getElem?_of_mem ho
    obtain ⟨i, h1, h2⟩ := hat k o hk
    exact upo_cl' hback (hcM.at h2)
  have hma : scl M.length a := fun v hv => upv_cl' hback (hca _ (by rw [ha]; exact List.mem_map.mpr ⟨v, hv, rfl⟩))
  have hF : ∀ k i, emb[k]? = some i → embF emb Mb.length k = i := fun k i h => by unfold embF; rw [List.getD_eq_getElem?_getD, h]; rfl
  have hcell : ∀ (k : Nat) (q : Nat × va_E), (xw cy (fun k => ad (embF emb Mb.length k)) ex M)[k]? = some q → ∃ i, emb[k]? = some i ∧ (xw cy ad ex Mb)[i]? = some q := by
    intro k q hq
    rw [xw_get] at hq
    cases hMk : M[k]? with
    | none => rw [hMk] at hq; cases hq
    | some o =>
      rw [hMk] at hq
      obtain ⟨i, h1, h2⟩ := hat k o hMk
      refine ⟨i, h1, ?_⟩
      rw [xw_at h2, ← hq, upo_xo, ← hF k i h1]
      rfl
  have hAA : ∀ q, va_A (xw cy (fun k => ad (embF emb Mb.length k)) ex M) sz q → va_A (xw cy ad ex Mb) sz q := by
    intro q hq
    rcases hq with ⟨k, e, hk⟩ | hq
    · obtain ⟨i, -, hi⟩ := hcell k _ hk
      exact Or.inl ⟨i, e, hi⟩
    · exact Or.inr hq
  have hargs : (a'.map (xv ad ex)) = a.map (xv (fun k => ad (embF emb Mb.length k)) ex) := by
    rw [ha, List.map_map]
    exact List.map_congr_left fun v _ => upv_xv v
  refine vx_conseq (h hmM hma l D cy ex (fun k => ad (embF emb Mb.length k)) sz hl) ?_ ?_ ?_ (fun _ _ _ => hAA)
  · rintro v U ⟨e1, e2, e3, e4, e5, e6⟩
    refine ⟨by rw [e1, hargs], e2, fun k q hq => ?_, e4, ⟨fun i j x y hi hj hxy => ?_, fun _ _ _ => trivial⟩, e6.narrow hAA⟩
    · obtain ⟨i, -, hi⟩ := hcell k q hq
      exact e3 i q hi
    · obtain ⟨i', hi1, hi2⟩ := hcell i x hi
      obtain ⟨j', hj1, hj2⟩ := hcell j y hj
      have := e5.1 i' j' x y hi2 hj2 hxy
      subst this
      exact hnd i j i' hi1 hj1
  · rintro v s o t ⟨e1, e2, e3, e4, e5, e6⟩ ⟨⟨adc, w, M', k1, k2, k3, k4, k5, k6, k7, k8⟩, kF⟩
    obtain ⟨ad', g1, g2, g3, g4, g5, g6⟩ := lift_end (A := va_A (xw cy ad ex Mb) sz) hlen hnd hin hcM k4 k5 e3 (e5.self (sz := sz)) (by rw [e2]) hAA k3 k7 k8 (fun q h1 h2 => kF.2 q h1 h2)
    refine ⟨⟨ad', w.map (upv (embF emb Mb.length)), mrg emb Mb M', ?_, hQ _ _ k4 k2, g1, g2, g3, ?_, g5, g6⟩, kF.1, fun q h1 h2 => kF.2 q h1 (fun z => h2 (hAA q z))⟩
    · rw [k1]
      cases w with
      | none => rfl
      | some z => show Outcome.returned (some (xv adc ex z)) = Outcome.returned (some (xv ad' ex (upv _ z))); rw [(g4 z (k6 z rfl)).2]
    · intro z hz
      cases w with
      | none => cases hz
      | some y => cases hz; exact (g4 y (k6 y rfl)).1
  · rintro v E s t ⟨e1, e2, e3, e4, e5, e6⟩ ⟨adc, M', k2, k3, k4, k5, k7, k8, kF⟩
    obtain ⟨ad', g1, g2, g3, g4, g5, g6⟩ := lift_end (A := va_A (xw cy ad ex Mb) sz) hlen hnd hin hcM k4 k5 e3 (e5.self (sz := sz)) (by rw [e2]) hAA k3 k7 k8 (fun q h1 h2 => kF.2 q h1 h2)
    exact ⟨ad', mrg emb Mb M', hQ _ _ k4 k2, g1, g2, g3, g5, g6, kF.1, fun q h1 h2 => kF.2 q h1 (fun z => h2 (hAA q z))⟩
