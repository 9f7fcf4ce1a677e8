/-! ===== a front part of a bigger world ===== -/
variable {mc ms : Nat}
theorem Tr.wcl {d : TrD} {a : List Value} {M : AM} {Q : AQ} (h : Tr d mc ms a M Q) : Tr d mc ms a M (fun o M' => Q o M' ∧ mcl M') := by
  intro hM ha l D cy ex ad sz hl
  refine vx_conseq (h hM ha l D cy ex ad sz hl) (fun _ _ q => q) ?_ ?_ (fun _ _ _ _ q => q)
  · rintro a s o t - ⟨⟨ad', v, M', h1, h2, h3, h4, h5, h6⟩, hF⟩
    exact ⟨⟨ad', v, M', h1, ⟨h2, h5⟩, h3, h4, h5, h6⟩, hF⟩
  · rintro a E s t - ⟨ad', M', h1, h2, h3, h4, h5⟩
    exact ⟨ad', M', ⟨h1, h4⟩, h2, h3, h4, h5⟩
theorem upv_id {f : Nat → Nat} {n : Nat} (h : ∀ k, k < n → f k = k) {v : Value} (hv : vcl n v) : upv f v = v := by
  cases v <;> first | rfl | exact congrArg Value.ref (h _ hv)
theorem upo_id {f : Nat → Nat} {n : Nat} (h : ∀ k, k < n → f k = k) {o : AO} (ho : ocl n o) : upo f o = o := by
  rcases o with ⟨t, z, c⟩ | ⟨ci, fs⟩
  · rcases c with c | c | c | c | g <;> try rfl
    have e : (fun j => (g j).map f) = g := by
      funext j
      cases hg : g j with
      | none => rfl
      | some q => exact congrArg some (h q (ho j q hg))
    show (Sum.inl (t, z, Sum.inr (Sum.inr (Sum.inr (Sum.inr (fun j => (g j).map f))))) : AO) = _
    rw [e]
  · have e : fs.map (upv f) = fs := by
      conv => rhs; rw [← List.map_id fs]
      exact List.map_congr_left fun v hv => upv_id h (ho v hv)
    show (Sum.inr (ci, fs.map (upv f)) : AO) = _
    rw [e]
theorem Tr.pre {d : TrD} {a : List Value} {M N : AM} {Q Q' : AQ} {k : Nat} (h : Tr d mc ms a M Q) (hl : M.length = k) (hn : va_nd (List.range k) = true) (hM : mcl M) (ha : scl k a) (hQ : ∀ o M1, Q o M1 → mcl M1 → M1.length = k ∧ (∀ f, upr f o = o) ∧ Q' o (M1 ++ N)) : Tr d mc ms a (M ++ N) Q' := by
  have hF : ∀ j, j < k → embF (List.range k) (M ++ N).length j = j := fun j hj => by
    unfold embF
    rw [List.getD_eq_getElem?_getD, List.getElem?_range hj]
    rfl
  subst hl
  refine Tr.lift (Q := fun o M' => Q o M' ∧ mcl M') (List.range M.length) h.wcl hn ?_ ?_ ?_
  · apply List.ext_getElem?
    intro i
    rw [List.getElem?_map, List.getElem?_map]
    by_cases hi : i < M.length
    · rw [List.getElem?_range hi, List.getElem?_eq_getElem hi]
      show some ((M ++ N)[i]?) = some (some (upo _ M[i]))
      rw [List.getElem?_append_left hi, List.getElem?_eq_getElem hi, upo_id hF (hM _ (List.getElem_mem hi))]
    · rw [List.getElem?_eq_none (by rw [List.length_range]; omega), List.getElem?_eq_none (by omega)]
      rfl
  · conv => lhs; rw [← List.map_id a]
    exact List.map_congr_left fun v hv => (upv_id hF (ha v hv)).symm
  · rintro o M1 - ⟨hq, hm1⟩
    obtain ⟨e1, e2, e3⟩ := hQ o M1 hq hm1
    rw [e2]
    have em : mrg (List.range M.length) (M ++ N) M1 = M1 ++ N := by
      unfold mrg
      rw [List.drop_eq_nil_of_le (by rw [List.length_range]; omega), List.map_nil, List.append_nil]
      apply List.ext_getElem?
      intro i
      by_cases hi : i < M.length
      · have ho := List.getElem?_eq_getElem (l := M1) (i := i) (by omega)
        rw [setAll_at _ _ _ i i _ (va_nd_inj _ hn) (List.getElem?_range hi) ho (by rw [List.length_append]; omega), List.getElem?_append_left (by omega), ho, upo_id (n := M.length) hF (by rw [← e1]; exact hm1 _ (List.getElem_mem _))]
      · rw [setAll_ne _ _ _ (by rw [List.mem_range]; exact hi), List.getElem?_append_right (by omega), List.getElem?_append_right (by omega), e1]
    rw [em]
    exact e3
theorem upr_exO {f : Nat → Nat} {E1 E2 : String} {x v : Int32} : upr f (exO E1 E2 x v) = exO E1 E2 x v := by
  unfold exO
  split
  · rfl
  · split <;> rfl

