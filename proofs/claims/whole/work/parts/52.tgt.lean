/-! ===== the reference's target is the class's ===== -/
def RS (g : Nat → Int32) (s : Sg) : Prop := (∀ k, k < 21 → g k = s.1 k) ∧ g 21 = nI s.2.1.length ∧ g 22 = nI s.2.2.length ∧ (∀ (k : Nat) (r : Rq), s.2.1[k]? = some r → ∀ j, j < 5 → g (23 + 5 * k + j) = rf r j) ∧ (∀ (b : Nat) (e : Rq), s.2.2[b]? = some e → ∀ j, j < 5 → g (83 + 5 * b + j) = rf e j)
theorem pickM_may {may : Nat → Bool} {f : Nat → Int32} : ∀ {m b : Nat}, pickM may f m = some b → may b = true
  | 0, b, h => nomatch h
  | k + 1, b, h => by
    unfold pickM at h
    split at h
    · split at h
      · cases h; assumption
      · cases h
    · rename_i b' hb
      have := pickM_may hb
      split at h
      · split at h
        · cases h; exact this
        · cases h; assumption
      · cases h; exact this
theorem pick_M {may : Nat → Bool} {f r : Nat → Int32} : ∀ {m : Nat}, (∀ k, k < m → (may k = true → ¬ r k < 0 ∧ r k = f k) ∧ (may k = false → r k < 0)) → pick r m = pickM may f m
  | 0, _ => rfl
  | m + 1, h => by
    unfold pick pickM
    rw [pick_M (m := m) fun k hk => h k (by omega)]
    obtain ⟨h1, h2⟩ := h m (by omega)
    cases hp : pickM may f m with
    | none =>
      show (if r m < 0 then _ else _) = (if may m = true then _ else _)
      cases hm : may m with
      | true => rw [if_neg (h1 hm).1]; rfl
      | false => rw [if_pos (h2 hm)]; rfl
    | some b =>
      have hb := pickM_lt hp
      have hb2 := ((h b (by omega)).1 (pickM_may hp)).2
      show (if r m < 0 then _ else if r b ≤ r m then _ else _) = (if may m = true then (if f b ≤ f m then _ else _) else _)
      cases hm : may m with
      | true => rw [if_neg (h1 hm).1, hb2, (h1 hm).2]; rfl
      | false => rw [if_pos (h2 hm)]; rfl
theorem pick_first {f : Nat → Int32} : ∀ {m : Nat}, (∀ k, k < m + 1 → ¬ f k < 0 ∧ f 0 ≤ f k) → pick f (m + 1) = some 0
  | 0, h => by show (if f 0 < 0 then _ else _) = _; exact if_neg (h 0 (by omega)).1
  | m + 1, h => by
    unfold pick
    rw [pick_first (m := m) fun k hk => h k (by omega)]
    show (if f (m + 1) < 0 then _ else if f 0 ≤ f (m + 1) then _ else _) = _
    rw [if_neg (h (m + 1) (by omega)).1, if_pos (h (m + 1) (by omega)).2]
theorem pickM_some {f : Nat → Int32} {may : Nat → Bool} : ∀ {m k : Nat}, k < m → may k = true → ∃ b, pickM may f m = some b
  | m + 1, k, hk, hm => by
    unfold pickM
    cases hp : pickM may f m with
    | some b =>
      show ∃ b', (if may m = true then (if f b ≤ f m then some b else some m) else some b) = some b'
      split
      · split
        · exact ⟨b, rfl⟩
        · exact ⟨m, rfl⟩
      · exact ⟨b, rfl⟩
    | none =>
      show ∃ b', (if may m = true then some m else none) = some b'
      by_cases hkm : k = m
      · rw [if_pos (hkm ▸ hm)]; exact ⟨m, rfl⟩
      · obtain ⟨b, hb⟩ := pickM_some (f := f) (m := m) (k := k) (by omega) hm
        rw [hb] at hp
        cases hp
theorem neg_in {a : Int32} (h : -2147483647 ≤ a.toInt) : (-a).toInt = -a.toInt := by
  rw [Int32.toInt_neg]
  have := Int32.toInt_lt a
  exact Int.bmod_eq_of_le (by omega) (by omega)
theorem lt0 {a : Int32} : a < 0 ↔ a.toInt < 0 := by rw [Int32.lt_iff_toInt_lt]; exact Iff.rfl
theorem le0 {a : Int32} : 0 ≤ a ↔ 0 ≤ a.toInt := by rw [Int32.le_iff_toInt_le]; exact Iff.rfl
variable {g : Nat → Int32} {s : Sg} {T : Nat}
theorem RS.row (h : RS g s) {k : Nat} (hk : k < s.2.1.length) : trN g k = (s.2.1.getD k d0).2.1 ∧ dlN g k = (s.2.1.getD k d0).2.2.2.1 ∧ nuN g k = (s.2.1.getD k d0).1 ∧ g (23 + 5 * k + 2) = (s.2.1.getD k d0).2.2.1 ∧ g (23 + 5 * k + 4) = (s.2.1.getD k d0).2.2.2.2 := by
  have := h.2.2.2.1 k _ (List.getElem?_eq_getElem hk)
  have e : s.2.1.getD k d0 = s.2.1[k] := by rw [List.getD_eq_getElem?_getD, List.getElem?_eq_getElem hk]; rfl
  rw [e]
  exact ⟨this 1 (by decide), this 3 (by decide), this 0 (by decide), this 2 (by decide), this 4 (by decide)⟩
theorem Inv.row (h : Inv T s) {k : Nat} (hk : k < s.2.1.length) : InvQ s.1 (s.2.1.getD k d0) := by
  refine h.2.2.1 _ ?_
  rw [List.getD_eq_getElem?_getD, List.getElem?_eq_getElem hk]
  exact List.getElem_mem hk
theorem low_sweep (h : RS g s) (hI : Inv T s) {sw : Int32} (hs : sw = 1 ∨ sw = 2) : lowS s.1 s.2.1 1 sw = pickM (mayN g sw) (farN g) s.2.1.length := by
  refine pick_M fun k hk => ?_
  have ht := (h.row hk).1
  have hr := (hI.row hk).2.1
  have ha : 0 ≤ (s.1 16).toInt ∧ (s.1 16).toInt < 24 := hI.1.2.2.2.2.2.2.1
  have h16 : g 16 = s.1 16 := h.1 16 (by decide)
  have n0 : ¬ sw = 0 := by rcases hs with rfl | rfl <;> decide
  have em : mayN g sw k = aheadN g sw k := if_neg n0
  have ed : ((s.2.1.getD k d0).2.1 - s.1 16).toInt = (s.2.1.getD k d0).2.1.toInt - (s.1 16).toInt := sub_in (by omega) (by omega)
  have en : (-((s.2.1.getD k d0).2.1 - s.1 16)).toInt = (s.1 16).toInt - (s.2.1.getD k d0).2.1.toInt := by rw [neg_in (by omega), ed]; omega
  rw [em]
  unfold farN aheadN rkS rankV sizeI
  rw [ht, h16, if_pos rfl]
  generalize (s.2.1.getD k d0).2.1 = t at *
  rcases hs with rfl | rfl
  · rw [if_pos rfl, if_pos rfl]
    constructor
    · intro hm
      have := Int32.le_iff_toInt_le.mp (of_decide_eq_true hm)
      exact ⟨fun z => by have := lt0.mp z; omega, by rw [if_pos (le0.mpr (by omega))]⟩
    · intro hm
      have : ¬ (s.1 16).toInt ≤ t.toInt := fun z => of_decide_eq_false hm (Int32.le_iff_toInt_le.mpr z)
      exact lt0.mpr (by omega)
  · rw [if_neg (by decide), if_neg (by decide)]
    constructor
    · intro hm
      have := Int32.le_iff_toInt_le.mp (of_decide_eq_true hm)
      refine ⟨fun z => by have := lt0.mp z; omega, ?_⟩
      by_cases hz : 0 ≤ t - s.1 16
      · rw [if_pos hz]
        have := le0.mp hz
        exact Int32.toInt_inj.mp (by omega)
      · rw [if_neg hz]
    · intro hm
      have : ¬ t.toInt ≤ (s.1 16).toInt := fun z => of_decide_eq_false hm (Int32.le_iff_toInt_le.mpr z)
      exact lt0.mpr (by omega)
theorem low_near (h : RS g s) (hI : Inv T s) (sw : Int32) : lowS s.1 s.2.1 2 sw = pickM (mayN g 0) (farN g) s.2.1.length := by
  refine pick_M fun k hk => ?_
  have ht := (h.row hk).1
  have hr := (hI.row hk).2.1
  have ha : 0 ≤ (s.1 16).toInt ∧ (s.1 16).toInt < 24 := hI.1.2.2.2.2.2.2.1
  have h16 : g 16 = s.1 16 := h.1 16 (by decide)
  have ed : ((s.2.1.getD k d0).2.1 - s.1 16).toInt = (s.2.1.getD k d0).2.1.toInt - (s.1 16).toInt := sub_in (by omega) (by omega)
  have en : (-((s.2.1.getD k d0).2.1 - s.1 16)).toInt = (s.1 16).toInt - (s.2.1.getD k d0).2.1.toInt := by rw [neg_in (by omega), ed]; omega
  rw [show mayN g 0 k = true from rfl]
  unfold farN rkS rankV sizeI
  rw [ht, h16, if_neg (show ¬ (2 : Int32) = 1 by decide), if_pos (rfl : (2 : Int32) = 2), Int32.zero_sub]
  generalize (s.2.1.getD k d0).2.1 = t at *
  refine ⟨fun _ => ⟨fun z => ?_, rfl⟩, fun z => nomatch z⟩
  by_cases hz : 0 ≤ t - s.1 16
  · rw [if_pos hz] at z
    have := lt0.mp z
    have := le0.mp hz
    omega
  · rw [if_neg hz] at z
    have := lt0.mp z
    have : ¬ 0 ≤ (t - s.1 16).toInt := fun y => hz (le0.mpr y)
    omega
theorem low_early (h : RS g s) (hI : Inv T s) (sw : Int32) : lowS s.1 s.2.1 3 sw = pickM (fun _ => true) (dlN g) s.2.1.length := by
  refine pick_M fun k hk => ?_
  have ht := (h.row hk).2.1
  have hr := (hI.row hk).2.2
  unfold rkS rankV
  rw [ht, if_neg (by decide), if_neg (by decide), if_pos rfl]
  exact ⟨fun _ => ⟨fun z => by have := lt0.mp z; omega, rfl⟩, fun z => nomatch z⟩
theorem low_first (hI : Inv T s) (sw : Int32) (hn : ¬ s.2.1.length = 0) : lowS s.1 s.2.1 0 sw = some 0 := by
  unfold lowS
  obtain ⟨m, hm⟩ : ∃ m, s.2.1.length = m + 1 := ⟨s.2.1.length - 1, by omega⟩
  rw [hm]
  refine pick_first fun k hk => ?_
  have hr := (hI.row (k := k) (by omega)).1
  unfold rkS rankV
  rw [if_neg (by decide), if_neg (by decide), if_neg (by decide), if_neg (by decide), if_neg (by decide), if_neg (by decide)]
  refine ⟨fun z => by have := lt0.mp z; omega, Int32.le_iff_toInt_le.mpr ?_⟩
  cases k with
  | zero => exact Int.le_refl _
  | succ k =>
    have hp := List.pairwise_iff_getElem.mp hI.2.2.2.1 0 (k + 1) (by omega) (by omega) (by omega)
    rw [List.getD_eq_getElem?_getD, List.getD_eq_getElem?_getD, List.getElem?_eq_getElem (show 0 < s.2.1.length by omega), List.getElem?_eq_getElem (show k + 1 < s.2.1.length by omega)]
    exact Int.le_of_lt hp
theorem low_none {u : Nat → Int32} {rs : List Rq} {way sw : Int32} (hn : rs.length = 0) : lowS u rs way sw = none := by
  unfold lowS
  rw [hn]
  rfl
def tgtS (u : Nat → Int32) (rs : List Rq) (way : Int32) : Option Nat := match lowS u rs way (u 20) with
  | some k => some k
  | none => lowS u rs way (opp (u 20))
theorem opp_3 {d : Int32} (h : d = 1 ∨ d = 2) : 3 - d = opp d := by rcases h with rfl | rfl <;> decide
theorem i03 {x : Int32} (h : 0 ≤ x.toInt ∧ x.toInt ≤ 3) : x = 0 ∨ x = 1 ∨ x = 2 ∨ x = 3 := by
  have : x.toInt = 0 ∨ x.toInt = 1 ∨ x.toInt = 2 ∨ x.toInt = 3 := by omega
  rcases this with z | z | z | z
  · exact Or.inl (Int32.toInt_inj.mp z)
  · exact Or.inr (Or.inl (Int32.toInt_inj.mp z))
  · exact Or.inr (Or.inr (Or.inl (Int32.toInt_inj.mp z)))
  · exact Or.inr (Or.inr (Or.inr (Int32.toInt_inj.mp z)))
theorem match_id {α : Type} (o : Option α) : (match o with | some k => some k | none => o) = o := by cases o <;> rfl
theorem tgt_eq (h : RS g s) (hI : Inv T s) {way : Int32} (hw : 0 ≤ way.toInt ∧ way.toInt ≤ 3) : tgtM g s.2.1.length way = tgtS s.1 s.2.1 way := by
  have h20 : s.1 20 = 1 ∨ s.1 20 = 2 := hI.1.2.2.2.2.2.2.2.2.2
  have g20 : g 20 = s.1 20 := h.1 20 (by decide)
  unfold tgtM tgtS
  by_cases hn : s.2.1.length = 0
  · rw [if_pos hn, low_none hn, low_none hn]
  · rw [if_neg hn]
    rcases i03 hw with rfl | rfl | rfl | rfl
    · rw [if_pos rfl, low_first hI _ hn]
    · rw [if_neg (by decide), if_pos rfl, low_sweep h hI h20, low_sweep h hI (opp_12 _)]
      unfold sweepM
      rw [g20, opp_3 h20]
      rfl
    · rw [if_neg (by decide), if_neg (by decide), if_pos rfl, low_near h hI, low_near h hI]
      cases pickM (mayN g 0) (farN g) s.2.1.length <;> rfl
    · rw [if_neg (by decide), if_neg (by decide), if_neg (by decide), low_early h hI, low_early h hI]
      cases pickM (fun _ => true) (dlN g) s.2.1.length <;> rfl
theorem tgtF_eq {R : Nat → Nat → Int32} (h : RqOk R s.2.1) (way : Int32) : tgtF s.1 R s.2.1.length way = tgtS s.1 s.2.1 way := by
  unfold tgtF tgtS
  rw [rk_eq h, rk_eq h]
  rfl
def swM (g u : Nat → Int32) : Option Nat → Int32
  | none => u 20
  | some k => if u 2 = 1 then (if aheadN g (u 20) k = true then u 20 else opp (u 20)) else u 20
theorem swM_ne {g u : Nat → Int32} (h : ¬ u 2 = 1) : ∀ o, swM g u o = u 20
  | none => rfl
  | some _ => if_neg h
/-- the target and the sweep of a tick, as the reference has them -/
theorem aim_eq (h : RS g s) (hI : Inv T s) : aimS s.1 s.2.1 = (tgtS s.1 s.2.1 (s.1 2), swM g s.1 (tgtS s.1 s.2.1 (s.1 2))) := by
  have h20 : s.1 20 = 1 ∨ s.1 20 = 2 := hI.1.2.2.2.2.2.2.2.2.2
  have n0 : ¬ s.1 20 = 0 := by rcases h20 with z | z <;> rw [z] <;> decide
  unfold aimS tgtS
  by_cases hn : s.2.1.length = 0
  · rw [low_none hn, low_none hn, if_pos hn]
    rfl
  · rcases i03 hI.1.2.2.1 with z | z | z | z
    · have z1 : ¬ s.1 2 = 1 := by rw [z]; decide
      rw [z, low_first hI _ hn, swM_ne z1]
    · rw [z, low_sweep h hI h20]
      cases hp : pickM (mayN g (s.1 20)) (farN g) s.2.1.length with
      | some k =>
        have hm := pickM_may hp
        rw [show mayN g (s.1 20) k = aheadN g (s.1 20) k from if_neg n0] at hm
        show (some k, s.1 20) = (some k, if s.1 2 = 1 then (if aheadN g (s.1 20) k = true then s.1 20 else opp (s.1 20)) else s.1 20)
        rw [if_pos z, if_pos hm]
      | none =>
        rw [low_sweep h hI (opp_12 _)]
        have hall : ∀ k, k < s.2.1.length → aheadN g (s.1 20) k = false := by
          intro k hk
          cases hz : aheadN g (s.1 20) k with
          | false => rfl
          | true =>
            obtain ⟨b, hb⟩ := pickM_some (f := farN g) (may := mayN g (s.1 20)) hk (by rw [show mayN g (s.1 20) k = aheadN g (s.1 20) k from if_neg n0]; exact hz)
            rw [hb] at hp
            cases hp
        cases hq : pickM (mayN g (opp (s.1 20))) (farN g) s.2.1.length with
        | some k =>
          have hk := pickM_lt hq
          show (if s.2.1.length = 0 then _ else _) = (some k, if s.1 2 = 1 then (if aheadN g (s.1 20) k = true then s.1 20 else opp (s.1 20)) else s.1 20)
          rw [if_neg hn, if_pos z, hall k hk]
          rfl
        | none =>
          exfalso
          have a0 := hall 0 (by omega)
          have no : ¬ opp (s.1 20) = 0 := by rcases opp_12 (s.1 20) with z | z <;> rw [z] <;> decide
          have hb0 : mayN g (opp (s.1 20)) 0 = true := by
            rw [show mayN g (opp (s.1 20)) 0 = aheadN g (opp (s.1 20)) 0 from if_neg no]
            unfold aheadN at a0 ⊢
            rcases h20 with z2 | z2
            · rw [z2, if_pos rfl] at a0
              rw [z2, show opp 1 = 2 from by decide, if_neg (by decide)]
              exact decide_eq_true (Int32.le_of_lt (Int32.not_le.mp (of_decide_eq_false a0)))
            · rw [z2, if_neg (by decide)] at a0
              rw [z2, show opp 2 = 1 from by decide, if_pos rfl]
              exact decide_eq_true (Int32.le_of_lt (Int32.not_le.mp (of_decide_eq_false a0)))
          obtain ⟨b, hb⟩ := pickM_some (f := farN g) (may := mayN g (opp (s.1 20))) (k := 0) (m := s.2.1.length) (by omega) hb0
          rw [hb] at hq
          cases hq
    · have z1 : ¬ s.1 2 = 1 := by rw [z]; decide
      rw [z, low_near h hI, swM_ne z1]
      cases hp : pickM (mayN g 0) (farN g) s.2.1.length with
      | some k => rfl
      | none =>
        obtain ⟨b, hb⟩ := pickM_some (f := farN g) (may := mayN g 0) (k := 0) (m := s.2.1.length) (by omega) rfl
        rw [hb] at hp
        cases hp
    · have z1 : ¬ s.1 2 = 1 := by rw [z]; decide
      rw [z, low_early h hI, swM_ne z1]
      cases hp : pickM (fun _ => true) (dlN g) s.2.1.length with
      | some k => rfl
      | none =>
        obtain ⟨b, hb⟩ := pickM_some (f := dlN g) (may := fun _ => true) (k := 0) (m := s.2.1.length) (by omega) rfl
        rw [hb] at hp
        cases hp
