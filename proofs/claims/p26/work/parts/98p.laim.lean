/-! ===== p26's law: what its target is; bounds that a tick keeps ===== -/
variable {T c d t : Nat} {s : Sg} {G Qa La u v : Nat → Int32} {rs : List Rq}
theorem pick_nn {f : Nat → Int32} : ∀ {m b : Nat}, pick f m = some b → ¬ f b < 0
  | 0, b, h => nomatch h
  | k + 1, b, h => by
    unfold pick at h
    split at h
    · split at h
      · cases h
      · rename_i hn; cases h; exact hn
    · rename_i b' hb
      have := pick_nn hb
      split at h
      · cases h; exact this
      · rename_i hn
        split at h
        · cases h; exact this
        · cases h; exact hn
theorem pick_none {f : Nat → Int32} : ∀ {m : Nat}, pick f m = none → ∀ k, k < m → f k < 0
  | 0, _, k, hk => absurd hk (Nat.not_lt_zero k)
  | m + 1, h, k, hk => by
    unfold pick at h
    split at h
    · rename_i hp
      split at h
      · rename_i hn
        by_cases hkm : k = m
        · rw [hkm]; exact hn
        · exact pick_none hp k (by omega)
      · cases h
    · split at h
      · cases h
      · split at h <;> cases h
theorem pick_sg {f g : Nat → Int32} : ∀ {m : Nat}, (∀ k, k < m → (f k < 0 ↔ g k < 0) ∧ (¬ f k < 0 → f k = g k)) → pick f m = pick g m
  | 0, _ => rfl
  | m + 1, h => by
    unfold pick
    rw [pick_sg (m := m) fun k hk => h k (by omega)]
    obtain ⟨h1, h2⟩ := h m (by omega)
    cases hp : pick g m with
    | none =>
      show (if f m < 0 then _ else _) = (if g m < 0 then _ else _)
      by_cases hn : f m < 0
      · rw [if_pos hn, if_pos (h1.mp hn)]
      · rw [if_neg hn, if_neg (fun z => hn (h1.mpr z))]
    | some b =>
      have hb := pick_lt hp
      obtain ⟨h3, h4⟩ := h b (by omega)
      have e : f b = g b := h4 (fun z => pick_nn hp (h3.mp z))
      show (if f m < 0 then _ else if f b ≤ f m then _ else _) = (if g m < 0 then _ else if g b ≤ g m then _ else _)
      by_cases hn : f m < 0
      · rw [if_pos hn, if_pos (h1.mp hn)]
      · rw [if_neg hn, if_neg (fun z => hn (h1.mpr z)), e, h2 hn]
theorem pick_first {f : Nat → Int32} : ∀ {m : Nat}, 0 < m → (∀ k, k < m → ¬ f k < 0) → (∀ k, k < m → f 0 ≤ f k) → pick f m = some 0
  | 0, h, _, _ => absurd h (Nat.lt_irrefl 0)
  | m + 1, _, h1, h2 => by
    unfold pick
    by_cases hm : m = 0
    · subst hm
      show (if f 0 < 0 then none else some 0) = _
      rw [if_neg (h1 0 (by omega))]
    · rw [pick_first (m := m) (by omega) (fun k hk => h1 k (by omega)) (fun k hk => h2 k (by omega))]
      show (if f m < 0 then _ else if f 0 ≤ f m then _ else _) = _
      rw [if_neg (h1 m (by omega)), if_pos (h2 m (by omega))]
theorem neg_in {a : Int32} (h1 : -1000 ≤ a.toInt) (h2 : a.toInt ≤ 1000) : (-a).toInt = -a.toInt := by
  rw [Int32.toInt_neg]
  exact Int.bmod_eq_of_le (by omega) (by omega)
theorem lt0 {a : Int32} : a < 0 ↔ a.toInt < 0 := by
  rw [Int32.lt_iff_toInt_lt, i32_0]
theorem size_in {a : Int32} (h1 : -1000 ≤ a.toInt) (h2 : a.toInt ≤ 1000) : 0 ≤ (sizeI a).toInt ∧ (sizeI a).toInt ≤ 1000 := by
  unfold sizeI
  split
  · rename_i h
    have := Int32.le_iff_toInt_le.mp h
    rw [i32_0] at this
    omega
  · rename_i h
    have : ¬ (0 : Int32).toInt ≤ a.toInt := fun z => h (Int32.le_iff_toInt_le.mpr z)
    rw [i32_0] at this
    rw [neg_in h1 h2]
    omega
/-- what the law reads of a request -/
theorem row_q (hq : QOk Qa rs) {k : Nat} (hk : k < rs.length) {j : Nat} (hj : j < 5) : Qa (5 * k + j) = rf (rs.getD k d0) j := by
  rw [List.getD_eq_getElem?_getD, List.getElem?_eq_getElem hk]
  exact hq k _ (List.getElem?_eq_getElem hk) j hj
theorem mem_getD {k : Nat} (hk : k < rs.length) : rs.getD k d0 ∈ rs := by
  rw [List.getD_eq_getElem?_getD, List.getElem?_eq_getElem hk]
  exact List.getElem_mem hk
theorem way_c {x : Int32} (h : 0 ≤ x.toInt ∧ x.toInt ≤ 3) : x = 0 ∨ x = 1 ∨ x = 2 ∨ x = 3 := by
  have hc := of_clamp h.1
  have hcn : x.toNatClampNeg = x.toInt.toNat := rfl
  rw [hc]
  rcases (show x.toNatClampNeg = 0 ∨ x.toNatClampNeg = 1 ∨ x.toNatClampNeg = 2 ∨ x.toNatClampNeg = 3 by omega) with e | e | e | e <;> rw [e]
  · exact Or.inl rfl
  · exact Or.inr (Or.inl rfl)
  · exact Or.inr (Or.inr (Or.inl rfl))
  · exact Or.inr (Or.inr (Or.inr rfl))
theorem by_in (hI : Inv T s) {k : Nat} (hk : k < s.2.1.length) : ((s.2.1.getD k d0).2.1 - s.1 16).toInt = (s.2.1.getD k d0).2.1.toInt - (s.1 16).toInt ∧ -24 < (s.2.1.getD k d0).2.1.toInt - (s.1 16).toInt ∧ (s.2.1.getD k d0).2.1.toInt - (s.1 16).toInt < 24 := by
  have h1 := (hI.2.2.1 _ (mem_getD hk)).2.1
  have h2 : 0 ≤ (s.1 16).toInt ∧ (s.1 16).toInt < 24 := hI.1.2.2.2.2.2.2.1
  refine ⟨sub_in (by omega) (by omega), by omega, by omega⟩
theorem lits_b (hI : Inv T s) (hq : QOk Qa s.2.1) (h16 : G 16 = s.1 16) {way : Int32} {k : Nat} (hk : k < s.2.1.length) : ¬ lits G Qa way k < 0 ∧ lits G Qa way k < 999999 := by
  have e9 : ((999999 : Int32).toInt) = 999999 := by decide
  have key : ∀ x : Int32, 0 ≤ x.toInt → x.toInt ≤ 9999 → ¬ x < 0 ∧ x < 999999 := fun x h1 h2 => ⟨fun z => by have := lt0.mp z; omega, Int32.lt_iff_toInt_lt.mpr (by omega)⟩
  unfold lits
  split
  · exact key 0 (by decide) (by decide)
  · split
    · rw [row_q hq hk (j := 3) (by decide)]
      have := (hI.2.2.1 _ (mem_getD hk)).2.2
      exact key _ this.1 this.2
    · rw [row_q hq hk (j := 1) (by decide), h16]
      obtain ⟨b1, b2, b3⟩ := by_in hI hk
      have := size_in (a := (s.2.1.getD k d0).2.1 - s.1 16) (by omega) (by omega)
      exact key _ this.1 (Int.le_trans this.2 (by decide))
theorem lrk_low (hI : Inv T s) (hq : QOk Qa s.2.1) (h16 : G 16 = s.1 16) {up : Int32} (hup : up = 1 ∨ up = 2) : pick (lrk G Qa (s.1 2) up) s.2.1.length = lowS s.1 s.2.1 (s.1 2) up := by
  unfold lowS
  have e1 : ∀ k, k < s.2.1.length → Qa (5 * k + 1) - G 16 = (s.2.1.getD k d0).2.1 - s.1 16 := fun k hk => by rw [row_q hq hk (j := 1) (by decide), h16]; rfl
  rcases way_c hI.1.2.2.1 with hw | hw | hw | hw <;> rw [hw]
  · -- the oldest
    by_cases h0 : s.2.1.length = 0
    · rw [h0]; rfl
    · have el : ∀ k, lrk G Qa 0 up k = 0 := fun k => rfl
      have er : ∀ k, rkS s.1 s.2.1 0 up k = (s.2.1.getD k d0).1 := fun k => rfl
      rw [pick_first (f := lrk G Qa 0 up) (by omega) (fun k hk => by rw [el]; decide) (fun k hk => by rw [el, el]; decide)]
      refine (pick_first (f := rkS s.1 s.2.1 0 up) (by omega) (fun k hk => ?_) (fun k hk => ?_)).symm
      · rw [er]
        have := (hI.2.2.1 _ (mem_getD hk)).1.1
        exact fun z => by have := lt0.mp z; omega
      · rw [er, er]
        by_cases hk0 : k = 0
        · rw [hk0]; exact Int32.le_refl _
        · have hp := hI.2.2.2.1
          have := List.pairwise_iff_getElem.mp hp 0 k (by omega) hk (by omega)
          rw [List.getD_eq_getElem?_getD, List.getD_eq_getElem?_getD, List.getElem?_eq_getElem hk, List.getElem?_eq_getElem (show 0 < s.2.1.length by omega)]
          exact Int32.le_iff_toInt_le.mpr (by show (s.2.1[0]).1.toInt ≤ (s.2.1[k]).1.toInt; omega)
  · -- the sweep
    refine pick_sg fun k hk => ?_
    obtain ⟨b1, b2, b3⟩ := by_in hI hk
    have hn := neg_in (a := (s.2.1.getD k d0).2.1 - s.1 16) (by omega) (by omega)
    have ef : lrk G Qa 1 up k = if up = 1 then (if (s.2.1.getD k d0).2.1 - s.1 16 < 0 then -1 else sizeI ((s.2.1.getD k d0).2.1 - s.1 16)) else (if 0 < (s.2.1.getD k d0).2.1 - s.1 16 then -1 else sizeI ((s.2.1.getD k d0).2.1 - s.1 16)) := by rw [← e1 k hk]; rfl
    have eg : rkS s.1 s.2.1 1 up k = if up = 1 then (s.2.1.getD k d0).2.1 - s.1 16 else -((s.2.1.getD k d0).2.1 - s.1 16) := rfl
    rw [ef, eg]
    generalize (s.2.1.getD k d0).2.1 - s.1 16 = a at b1 hn
    rcases hup with hu | hu
    · rw [if_pos hu, if_pos hu]
      by_cases ha : a < 0
      · rw [if_pos ha]
        exact ⟨⟨fun _ => ha, fun _ => lt_m1⟩, fun z => absurd lt_m1 z⟩
      · rw [if_neg ha]
        have e : sizeI a = a := if_pos (Int32.not_lt.mp ha)
        rw [e]
        exact ⟨Iff.rfl, fun _ => rfl⟩
    · have hu1 : ¬ up = 1 := by rw [hu]; decide
      rw [if_neg hu1, if_neg hu1]
      by_cases ha : 0 < a
      · rw [if_pos ha]
        have h3 := Int32.lt_iff_toInt_lt.mp ha
        rw [i32_0] at h3
        have h4 : -a < 0 := lt0.mpr (by omega)
        exact ⟨⟨fun _ => h4, fun _ => lt_m1⟩, fun z => absurd lt_m1 z⟩
      · rw [if_neg ha]
        have h3 : ¬ (0 : Int32).toInt < a.toInt := fun z => ha (Int32.lt_iff_toInt_lt.mpr z)
        rw [i32_0] at h3
        have e : sizeI a = -a := by
          unfold sizeI
          split
          · rename_i h5
            have h6 := Int32.le_iff_toInt_le.mp h5
            rw [i32_0] at h6
            rw [← Int32.toInt_inj, hn]
            omega
          · rfl
        rw [e]
        exact ⟨Iff.rfl, fun _ => rfl⟩
  · -- the nearest
    refine pick_eq fun k hk => ?_
    show sizeI (Qa (5 * k + 1) - G 16) = (if 0 ≤ (s.2.1.getD k d0).2.1 - s.1 16 then (s.2.1.getD k d0).2.1 - s.1 16 else 0 - ((s.2.1.getD k d0).2.1 - s.1 16))
    rw [e1 k hk]
    unfold sizeI
    rw [Int32.zero_sub]
  · -- the earliest
    refine pick_eq fun k hk => ?_
    show Qa (5 * k + 3) = (s.2.1.getD k d0).2.2.2.1
    exact row_q hq hk (j := 3) (by decide)
theorem low_opp (hI : Inv T s) (h0 : ¬ s.2.1.length = 0) (hn : lowS s.1 s.2.1 (s.1 2) (s.1 20) = none) : ∃ b, lowS s.1 s.2.1 (s.1 2) (opp (s.1 20)) = some b := by
  cases ho : lowS s.1 s.2.1 (s.1 2) (opp (s.1 20)) with
  | some b => exact ⟨b, rfl⟩
  | none =>
    exfalso
    have hk : 0 < s.2.1.length := by omega
    have a1 := lt0.mp (pick_none hn 0 hk)
    have a2 := lt0.mp (pick_none ho 0 hk)
    obtain ⟨b1, b2, b3⟩ := by_in hI hk
    have hg := neg_in (a := (s.2.1.getD 0 d0).2.1 - s.1 16) (by omega) (by omega)
    have hQ := hI.2.2.1 _ (mem_getD hk)
    unfold rkS rankV at a1 a2
    generalize (s.2.1.getD 0 d0).2.1 - s.1 16 = a at b1 hg a1 a2
    rcases way_c hI.1.2.2.1 with hw | hw | hw | hw <;> rw [hw] at a1 a2
    · rw [if_neg (by decide), if_neg (by decide), if_neg (by decide)] at a1
      have := hQ.1.1
      omega
    · rw [if_pos rfl] at a1 a2
      have h20 : s.1 20 = 1 ∨ s.1 20 = 2 := hI.1.2.2.2.2.2.2.2.2.2
      rcases h20 with h | h
      · rw [h] at a1 a2
        rw [if_pos rfl] at a1
        rw [if_neg (by decide)] at a2
        omega
      · rw [h] at a1 a2
        rw [if_neg (by decide)] at a1
        rw [if_pos (by decide)] at a2
        omega
    · rw [if_neg (by decide), if_pos rfl] at a1
      have := size_in (a := a) (by omega) (by omega)
      unfold sizeI at this
      rw [Int32.zero_sub] at a1
      omega
    · rw [if_neg (by decide), if_neg (by decide), if_pos rfl] at a1
      have := hQ.2.2.1
      omega
/-- the law's target, as the state has it -/
theorem l_aim (hI : Inv T s) (hq : QOk Qa s.2.1) (h16 : G 16 = s.1 16) (h20 : G 20 = s.1 20) :
    (∃ b, ltgt G Qa (s.1 2) s.2.1.length = nI b ∧ aimS s.1 s.2.1 = (some b, s.1 20) ∧ b < s.2.1.length) ∨ (∃ b, ltgt G Qa (s.1 2) s.2.1.length = nI b + 100 ∧ aimS s.1 s.2.1 = (some b, 3 - s.1 20) ∧ b < s.2.1.length) ∨ (ltgt G Qa (s.1 2) s.2.1.length = -1 ∧ aimS s.1 s.2.1 = (none, s.1 20)) := by
  have hu : s.1 20 = 1 ∨ s.1 20 = 2 := hI.1.2.2.2.2.2.2.2.2.2
  have eo : 3 - s.1 20 = opp (s.1 20) := by rcases hu with h | h <;> rw [h] <;> decide
  have hu2 : opp (s.1 20) = 1 ∨ opp (s.1 20) = 2 := opp_12 _
  unfold ltgt aimS
  rw [h20, lrk_low hI hq h16 hu, eo, lrk_low hI hq h16 hu2]
  cases hl : lowS s.1 s.2.1 (s.1 2) (s.1 20) with
  | some b => exact Or.inl ⟨b, rfl, rfl, pick_lt hl⟩
  | none =>
    by_cases h0 : s.2.1.length = 0
    · refine Or.inr (Or.inr ⟨?_, if_pos h0⟩)
      have : lowS s.1 s.2.1 (s.1 2) (opp (s.1 20)) = none := by unfold lowS; rw [h0]; rfl
      rw [this]
      rfl
    · obtain ⟨b, hb⟩ := low_opp hI h0 hl
      refine Or.inr (Or.inl ⟨b, ?_, ?_, pick_lt hb⟩)
      · rw [hb]; rfl
      · dsimp only
        rw [if_neg h0, hb]
/-! ticks, heat, log -/
def LI (t : Nat) (s : Sg) : Prop := s.1 6 = nI t ∧ (∃ h : Nat, s.1 18 = nI h ∧ h ≤ 20 * t) ∧ ∀ e ∈ s.2.2, e.2.2.2.1 % s.1 1 = e.2.2.1
theorem rds_log (P : Rq → Prop) (u : Nat → Int32) (hP : ∀ x y l : Int32, P (x, y, u 6 % u 1, u 6, l)) : ∀ (hs : List Rq) (a : (Nat → Int32) × List Rq), (∀ e ∈ a.2, P e) → ∀ e ∈ (hs.foldl (rdS u) a).2, P e
  | [], _, h => h
  | r :: hs, a, h => by
    rw [List.foldl_cons]
    refine rds_log P u hP hs _ (fun e he => ?_)
    have := List.mem_of_mem_take (show e ∈ List.take 10 (_ :: a.2) from he)
    rcases List.mem_cons.mp this with q | q
    · rw [q]; exact hP _ _ _
    · exact h e q
theorem bgn_c (s : Sg) : (bgnS s = readS (aimU s.1 (aimS s.1 s.2.1).2, s.2)) ∨ (∃ g, bgnS s = (startU (aimU s.1 (aimS s.1 s.2.1).2) g, s.2)) ∨ (∃ g, bgnS s = (moveU (aimU s.1 (aimS s.1 s.2.1).2) g, s.2)) := by
  unfold bgnS bgnA
  split
  · split
    · exact Or.inl rfl
    · split
      · exact Or.inr (Or.inl ⟨_, rfl⟩)
      · exact Or.inl rfl
  · exact Or.inr (Or.inr ⟨_, rfl⟩)
theorem bgn_k (s : Sg) {k : Nat} (hk : k < 8) : (bgnS s).1 k = s.1 k := by
  have ha : aimU s.1 (aimS s.1 s.2.1).2 k = s.1 k := (upd_o (by omega)).trans (upd_o (by omega))
  rcases bgn_c s with h | ⟨g, h⟩ | ⟨g, h⟩ <;> rw [h]
  · exact (rds_u _ (by omega) (by omega) _ _).trans ha
  · refine Eq.trans ?_ ha
    show startU _ g k = _
    unfold startU
    rw [upd_o (by omega), upd_o (by omega), upd_o (by omega), upd_o (by omega), upd_o (by omega)]
  · exact (moveU_k (by omega) (by omega) (by omega) (by omega) (by omega)).trans ha
theorem move_18 (A : Nat → Int32) (g : Int32) : moveU A g 18 = A 18 + 1 ∨ moveU A g 18 = A 18 + A 3 := by
  by_cases hlt : (if A 17 = 1 then A 16 < g else g < A 16)
  · rw [show moveU A g = upd (upd (upd A 16 (A 16 + (if A 17 = 1 then 1 else -1))) 18 (A 18 + 1)) 11 (A 11 + 1) from if_pos hlt]
    exact Or.inl ((upd_o (by decide)).trans upd_i)
  · rw [show moveU A g = upd (upd (upd A 17 0) 18 (A 18 + A 3)) 13 (A 13 + 1) from if_neg hlt]
    exact Or.inr ((upd_o (by decide)).trans upd_i)
theorem bgn_18 (hI : Inv T s) {h : Nat} (hh : s.1 18 = nI h) (hb : h ≤ 1000000) : ∃ h1 : Nat, (bgnS s).1 18 = nI h1 ∧ h1 ≤ h + 20 := by
  have ha : aimU s.1 (aimS s.1 s.2.1).2 18 = nI h := ((upd_o (by decide)).trans (upd_o (by decide))).trans hh
  have h3 : 0 ≤ (s.1 3).toInt ∧ (s.1 3).toInt ≤ 20 := hI.1.2.2.2.1
  rcases bgn_c s with q | ⟨g, q⟩ | ⟨g, q⟩ <;> rw [q]
  · exact ⟨h, (rds_u _ (by decide) (by decide) _ _).trans ha, by omega⟩
  · refine ⟨h + 2, ?_, by omega⟩
    show startU _ g 18 = _
    unfold startU
    rw [upd_o (by decide), upd_o (by decide), upd_i, ha]
    exact nI_add h 2
  · rcases move_18 (aimU s.1 (aimS s.1 s.2.1).2) g with e | e
    · refine ⟨h + 1, ?_, by omega⟩
      show moveU _ g 18 = _
      rw [e, ha]
      exact nI_1 h
    · refine ⟨h + (s.1 3).toNatClampNeg, ?_, by have : (s.1 3).toNatClampNeg = (s.1 3).toInt.toNat := rfl; omega⟩
      show moveU _ g 18 = _
      rw [e, ha, show aimU s.1 (aimS s.1 s.2.1).2 3 = s.1 3 from (upd_o (by decide)).trans (upd_o (by decide))]
      conv => lhs; rw [of_clamp h3.1]
      exact nI_add h _
theorem bgn_log (hL : ∀ e ∈ s.2.2, e.2.2.2.1 % s.1 1 = e.2.2.1) : ∀ e ∈ (bgnS s).2.2, e.2.2.2.1 % s.1 1 = e.2.2.1 := by
  rcases bgn_c s with q | ⟨g, q⟩ | ⟨g, q⟩ <;> rw [q]
  · refine rds_log (fun e => e.2.2.2.1 % s.1 1 = e.2.2.1) (aimU s.1 (aimS s.1 s.2.1).2) (fun x y l => ?_) _ _ hL
    show aimU s.1 (aimS s.1 s.2.1).2 6 % s.1 1 = aimU s.1 (aimS s.1 s.2.1).2 6 % aimU s.1 (aimS s.1 s.2.1).2 1
    rw [show aimU s.1 (aimS s.1 s.2.1).2 1 = s.1 1 from (upd_o (by decide)).trans (upd_o (by decide))]
  · exact hL
  · exact hL
theorem last_18 (u : Nat → Int32) : lastU u 18 = coolH (u 18) := by
  unfold lastU
  rw [upd_o (by decide), upd_o (by decide), upd_o (by decide), upd_i]
theorem cool_n {h : Nat} (hh : h ≤ 2000000) : coolH (nI h) = nI (h - 1) := by
  unfold coolH
  by_cases h0 : 0 < h
  · rw [if_pos (show (0 : Int32) < nI h from nI_lt (a := 0) h0 (by omega))]
    exact sub_nI (a := h) (b := 1) (by omega)
  · rw [if_neg (show ¬ (0 : Int32) < nI h from nI_nlt (b := h) (a := 0) (by omega) (by decide)), show h - 1 = h by omega]
theorem give_k (s : Sg) {k : Nat} (hk : ¬ k = 10) : (giveS s).1 k = s.1 k := by
  unfold giveS
  exact if_neg hk
theorem li_tick (hI : Inv T s) (ht : t ≤ 20000) (h : LI t s) : LI (t + 1) (tickS s) := by
  obtain ⟨h6, ⟨hh, h18, hb⟩, hl⟩ := h
  obtain ⟨h1, b18, bb⟩ := bgn_18 hI h18 (by omega)
  have bl := bgn_log hl
  have b6 := bgn_k s (k := 6) (by decide)
  have b1 := bgn_k s (k := 1) (by decide)
  unfold tickS endS
  split
  · refine ⟨?_, ⟨h1 - 1, ?_, by omega⟩, ?_⟩
    · show lastU (bgnS s).1 6 = _
      rw [show lastU (bgnS s).1 6 = (bgnS s).1 6 + 1 from upd_i, b6, h6]; exact nI_1 t
    · show lastU (bgnS s).1 18 = _
      rw [last_18, b18, cool_n (by omega)]
    · show ∀ e ∈ (bgnS s).2.2, e.2.2.2.1 % lastU (bgnS s).1 1 = e.2.2.1
      rw [last_k (by decide) (by decide) (by decide) (by decide), b1]
      exact bl
  · have g6 : (giveS (bgnS s)).1 6 = (bgnS s).1 6 := give_k _ (by decide)
    have g1 : (giveS (bgnS s)).1 1 = (bgnS s).1 1 := give_k _ (by decide)
    have g18 : (giveS (bgnS s)).1 18 = (bgnS s).1 18 := give_k _ (by decide)
    refine ⟨?_, ⟨h1 - 1, ?_, by omega⟩, ?_⟩
    · show lastU (giveS (bgnS s)).1 6 = _
      rw [show lastU (giveS (bgnS s)).1 6 = (giveS (bgnS s)).1 6 + 1 from upd_i, g6, b6, h6]; exact nI_1 t
    · show lastU (giveS (bgnS s)).1 18 = _
      rw [last_18, g18, b18, cool_n (by omega)]
    · show ∀ e ∈ (bgnS s).2.2, e.2.2.2.1 % lastU (giveS (bgnS s)).1 1 = e.2.2.1
      rw [last_k (by decide) (by decide) (by decide) (by decide), g1, b1]
      exact bl
