/-! ===== what every call keeps ===== -/
variable {T : Nat} {s : Sg} {a : Kp}
theorem Inv.mono {T1 : Nat} (h : Inv T s) (hT : T ≤ T1) : Inv T1 s := by
  obtain ⟨h1, h2, h3, h4, w, t, a1, a2, a3, a4, a5⟩ := h
  exact ⟨h1, h2, h3, h4, w, t, a1, a2, a3, Nat.le_trans a4 hT, a5⟩
def AInv (T : Nat) (a : Kp) : Prop := Inv T a.1 ∧ ∀ s ∈ a.2, Inv T s
theorem AInv.mono {T1 : Nat} (h : AInv T a) (hT : T ≤ T1) : AInv T1 a := ⟨h.1.mono hT, fun s hs => (h.2 s hs).mono hT⟩
theorem ai_keep {sv : Bool} (h : AInv T a) : ∀ s ∈ keepK sv a, Inv T s := by
  intro s hs
  unfold keepK at hs
  split at hs
  · unfold pushS at hs
    split at hs
    · rcases List.mem_append.mp hs with q | q
      · exact h.2 s (List.mem_of_mem_drop q)
      · rw [List.mem_singleton.mp q]; exact h.1
    · rcases List.mem_append.mp hs with q | q
      · exact h.2 s q
      · rw [List.mem_singleton.mp q]; exact h.1
  · exact h.2 s hs
theorem litI : ((4 : Int32).toInt) = 4 ∧ ((24 : Int32).toInt) = 24 ∧ ((3 : Int32).toInt) = 3 ∧ ((12 : Int32).toInt) = 12 ∧ ((20 : Int32).toInt) = 20 ∧ ((5 : Int32).toInt) = 5 ∧ ((200 : Int32).toInt) = 200 ∧ ((100 : Int32).toInt) = 100 ∧ ((9999 : Int32).toInt) = 9999 ∧ ((99 : Int32).toInt) = 99 := by decide
theorem inv_put {t c : Int32} (h : Inv T s) (hf : plateFit t c = true) : Inv T (putS s t c) := by
  obtain ⟨h0, h1, h2, h3, h4, h5, h6, h7, h8, h9⟩ := h.1
  obtain ⟨l4, l24, l3, l12, -⟩ := litI
  have hf2 := (Bool.and_eq_true _ _).mp hf
  have t1 := inI_iff.mp hf2.1
  have t2 := inI_iff.mp hf2.2
  have e0 : ((0 : Int32).toInt) = 0 := by decide
  refine ⟨⟨?_, ?_, h2, h3, h4, h5, ?_, Or.inl rfl, Or.inl rfl, Or.inl rfl⟩, Nat.zero_le _, fun r hr => absurd hr (by simp [putS]), List.Pairwise.nil, 0, 0, rfl, rfl, Nat.le_refl _, Nat.zero_le _, rfl⟩
  · show 4 ≤ t.toInt ∧ t.toInt ≤ 24
    omega
  · show 3 ≤ c.toInt ∧ c.toInt ≤ 12
    omega
  · show 0 ≤ ((0 : Int32).toInt) ∧ ((0 : Int32).toInt) < 24
    omega
theorem inv_add {tr se de : Int32} (h : Inv T s) (hf : reqFit s.1 tr se de = true) (hl : ¬ s.2.1.length = 12) (hT : T + 1 < 2 ^ 31) : Inv (T + 1) (addS s tr se de) := by
  obtain ⟨hU, a1, a2, a3, w, t, a4, a5, a6, a7, a8⟩ := h
  obtain ⟨h0, h1, h2, h3, h4, h5, h6, h7, h8, h9⟩ := id hU
  have hf2 := (Bool.and_eq_true _ _).mp hf
  have hf3 := (Bool.and_eq_true _ _).mp hf2.2
  have t1 := inI_iff.mp hf2.1
  have t3 := inI_iff.mp hf3.2
  have e0 : ((0 : Int32).toInt) = 0 := by decide
  have e9 := litI.2.2.2.2.2.2.2.2.1
  have e1 : (s.1 0 - 1).toInt = (s.1 0).toInt - 1 := by rw [sub_in (by rw [i32_1]; omega) (by rw [i32_1]; omega), i32_1]
  have e7 : (s.1 7).toInt = t := by rw [a5]; exact nI_toInt (by omega)
  have e7' : s.1 7 + 1 = nI (t + 1) := by rw [a5]; exact nI_1 t
  have e77 : (s.1 7 + 1).toInt = t + 1 := by rw [e7', nI_toInt (by omega)]; omega
  refine ⟨⟨h0, h1, h2, h3, h4, h5, h6, h7, h8, h9⟩, ?_, fun r hr => ?_, ?_, w, t + 1, a4, e7', ?_, by omega, a8⟩
  · show (s.2.1 ++ [_]).length ≤ 12
    rw [List.length_append, List.length_singleton]
    omega
  · rcases List.mem_append.mp (show r ∈ s.2.1 ++ [_] from hr) with q | q
    · obtain ⟨b1, b2, b3⟩ := a2 r q
      refine ⟨⟨b1.1, ?_⟩, b2, b3⟩
      show r.1.toInt < (s.1 7 + 1).toInt
      omega
    · rw [List.mem_singleton.mp q]
      refine ⟨⟨?_, ?_⟩, ⟨?_, ?_⟩, ?_, ?_⟩
      · show 0 ≤ (s.1 7).toInt
        omega
      · show (s.1 7).toInt < (s.1 7 + 1).toInt
        omega
      · show 0 ≤ tr.toInt
        omega
      · show tr.toInt < 24
        omega
      · show 0 ≤ de.toInt
        omega
      · show de.toInt ≤ 9999
        omega
  · refine List.pairwise_append.mpr ⟨a3, List.pairwise_singleton _ _, fun x hx y hy => ?_⟩
    rw [List.mem_singleton.mp hy]
    exact (a2 x hx).1.2
  · show w + (s.2.1 ++ [_]).length ≤ t + 1
    rw [List.length_append, List.length_singleton]
    omega
theorem inv_set {w v : Int32} (h : Inv T s) (hf : setFit w v = true) : Inv T (upd s.1 (2 + w.toNatClampNeg) v, s.2) := by
  obtain ⟨h0, h1, h2, h3, h4, h5, h6, h7, h8, h9⟩ := h.1
  obtain ⟨l4, l24, l3, l12, l20, l5, l200, l100, -⟩ := litI
  have e0 : ((0 : Int32).toInt) = 0 := by decide
  unfold setFit at hf
  by_cases w0 : w = 0
  · rw [if_pos w0] at hf
    have t := inI_iff.mp hf
    rw [w0]
    exact inv_u h ⟨h0, h1, (show 0 ≤ v.toInt ∧ v.toInt ≤ 3 by omega), h3, h4, h5, h6, h7, h8, h9⟩ rfl rfl
  · rw [if_neg w0] at hf
    by_cases w1 : w = 1
    · rw [if_pos w1] at hf
      have t := inI_iff.mp hf
      rw [w1]
      exact inv_u h ⟨h0, h1, h2, (show 0 ≤ v.toInt ∧ v.toInt ≤ 20 by omega), h4, h5, h6, h7, h8, h9⟩ rfl rfl
    · rw [if_neg w1] at hf
      by_cases w2 : w = 2
      · rw [if_pos w2] at hf
        have t := inI_iff.mp hf
        rw [w2]
        exact inv_u h ⟨h0, h1, h2, h3, (show 5 ≤ v.toInt ∧ v.toInt ≤ 200 by omega), h5, h6, h7, h8, h9⟩ rfl rfl
      · rw [if_neg w2] at hf
        by_cases w3 : w = 3
        · rw [if_pos w3] at hf
          have t := inI_iff.mp hf
          rw [w3]
          exact inv_u h ⟨h0, h1, h2, h3, h4, (show 0 ≤ v.toInt ∧ v.toInt ≤ 100 by omega), h6, h7, h8, h9⟩ rfl rfl
        · rw [if_neg w3] at hf
          cases hf
theorem drop_sub : ∀ (rs : List Rq) (k : Nat), (dropAt rs k).Sublist rs
  | [], k => by
    unfold dropAt
    rw [List.take_nil, List.drop_nil]
    exact List.Sublist.refl _
  | x :: rs, 0 => List.sublist_cons_self x rs
  | x :: rs, k + 1 => (drop_sub rs k).cons_cons x
theorem inv_drop {k : Nat} (h : Inv T s) : Inv T (s.1, dropAt s.2.1 k, s.2.2) :=
  h.sub (rs := dropAt s.2.1 k) (lg := s.2.2) h.1 rfl (drop_sub _ _) ⟨0, by rw [nI_0, Int32.add_zero], by rw [Nat.zero_add]; exact (drop_sub _ _).length_le, fun w hw => hw⟩
theorem inv_pass : ∀ (k : Nat) (s : Sg), Inv T s → Inv T (passS k s)
  | 0, _, h => h
  | k + 1, s, h => inv_pass k (tickS s) (inv_tick h)
theorem inv_run : ∀ (d : Nat) (s : Sg), Inv T s → Inv T (runS d s).2
  | 0, _, h => h
  | d + 1, s, h => by
    unfold runS
    split
    · exact h
    · exact inv_run d (tickS s) (inv_tick h)
theorem ai_plate {sv : Bool} {t c : Int32} (h : AInv T a) : AInv T (plateA sv t c a).2.2 := by
  unfold plateA
  split
  · rename_i hf; exact ⟨inv_put h.1 hf, ai_keep h⟩
  · exact h
theorem ai_request {sv : Bool} {tr se de : Int32} (h : AInv T a) (hT : T + 1 < 2 ^ 31) : AInv (T + 1) (requestA sv tr se de a).2.2 := by
  unfold requestA
  split
  · rename_i hf
    split
    · exact h.mono (Nat.le_succ T)
    · rename_i hl; exact ⟨inv_add h.1 hf hl hT, fun s hs => (ai_keep h s hs).mono (Nat.le_succ T)⟩
  · exact h.mono (Nat.le_succ T)
theorem ai_cancel {sv : Bool} {x : Int32} (h : AInv T a) : AInv T (cancelA sv x a).2.2 := by
  unfold cancelA
  split
  · exact h
  · exact ⟨inv_drop h.1, ai_keep h⟩
theorem ai_set {sv : Bool} {w v : Int32} (h : AInv T a) : AInv T (setA sv w v a).2.2 := by
  unfold setA
  split
  · rename_i hf; exact ⟨inv_set h.1 hf, ai_keep h⟩
  · exact h
theorem ai_pass {sv : Bool} {t : Int32} (h : AInv T a) : AInv T (passA sv t a).2.2 := by
  unfold passA
  split
  · split
    · exact ⟨inv_pass _ _ h.1, ai_keep h⟩
    · exact h
  · exact h
theorem ai_finish {sv : Bool} (h : AInv T a) : AInv T (finishA sv a).2.2 := by
  unfold finishA
  split
  · exact ⟨inv_run _ _ h.1, ai_keep h⟩
  · exact h
