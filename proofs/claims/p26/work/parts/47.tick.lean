/-! ===== a tick ===== -/
def d0 : Rq := (0, 0, 0, 0, 0)
def rkS (u : Nat → Int32) (rs : List Rq) (way sweep : Int32) (k : Nat) : Int32 := rankV ((rs.getD k d0).2.1 - u 16) (rs.getD k d0).2.2.2.1 (rs.getD k d0).1 way sweep
def lowS (u : Nat → Int32) (rs : List Rq) (way sweep : Int32) : Option Nat := pick (rkS u rs way sweep) rs.length
def aimS (u : Nat → Int32) (rs : List Rq) : Option Nat × Int32 := match lowS u rs (u 2) (u 20) with
  | some k => (some k, u 20)
  | none => if rs.length = 0 then (none, u 20) else (lowS u rs (u 2) (opp (u 20)), opp (u 20))
def goalS (u : Nat → Int32) (rs : List Rq) : Option Nat → Int32
  | none => u 16
  | some k => (rs.getD k d0).2.1
def aimU (u : Nat → Int32) (sw : Int32) : Nat → Int32 := upd (upd u 14 (u 14 + u 19)) 20 sw
def startU (u : Nat → Int32) (goal : Int32) : Nat → Int32 := upd (upd (upd (upd (upd u 17 (if u 16 < goal then 1 else 2)) 16 (u 16 + (if u 16 < goal then 1 else -1))) 18 (u 18 + 2)) 12 (u 12 + 1)) 11 (u 11 + 1)
def moveU (u : Nat → Int32) (goal : Int32) : Nat → Int32 := if (if u 17 = 1 then u 16 < goal else goal < u 16) then upd (upd (upd u 16 (u 16 + (if u 17 = 1 then 1 else -1))) 18 (u 18 + 1)) 11 (u 11 + 1) else upd (upd (upd u 17 0) 18 (u 18 + u 3)) 13 (u 13 + 1)
def bgnA (s : Sg) (a : Option Nat × Int32) : Sg :=
  if s.1 17 = 0 then
    if goalS s.1 s.2.1 a.1 = s.1 16 then readS (aimU s.1 a.2, s.2) else if s.1 19 = 0 then (startU (aimU s.1 a.2) (goalS s.1 s.2.1 a.1), s.2) else readS (aimU s.1 a.2, s.2)
  else (moveU (aimU s.1 a.2) (goalS s.1 s.2.1 a.1), s.2)
def bgnS (s : Sg) : Sg := bgnA s (aimS s.1 s.2.1)
def lastU (u : Nat → Int32) : Nat → Int32 := upd (upd (upd (upd u 18 (coolH (u 18))) 19 (coolR (u 4) (coolH (u 18)) (u 19))) 15 (if u 15 < coolH (u 18) then coolH (u 18) else u 15)) 6 (u 6 + 1)
def endS (s : Sg) : Sg := if s.1 5 = 0 then (lastU s.1, s.2) else (lastU (giveS s).1, (giveS s).2)
def tickS (s : Sg) : Sg := endS (bgnS s)
theorem moveU_k {u : Nat → Int32} {goal : Int32} {k : Nat} (a : ¬ k = 16) (b : ¬ k = 18) (c : ¬ k = 11) (d : ¬ k = 17) (e : ¬ k = 13) : moveU u goal k = u k := by
  unfold moveU
  by_cases h : (if u 17 = 1 then u 16 < goal else goal < u 16)
  · rw [if_pos h]
    unfold upd
    rw [if_neg c, if_neg b, if_neg a]
  · rw [if_neg h]
    unfold upd
    rw [if_neg e, if_neg b, if_neg d]
theorem rds_u (u : Nat → Int32) {k : Nat} (k8 : ¬ k = 8) (k9 : ¬ k = 9) : ∀ (hs : List Rq) (a : (Nat → Int32) × List Rq), (hs.foldl (rdS u) a).1 k = a.1 k
  | [], _ => rfl
  | r :: hs, a => by
    rw [List.foldl_cons, rds_u u k8 k9 hs]
    show upd (upd a.1 8 _) 9 _ k = _
    unfold upd
    rw [if_neg k9, if_neg k8]
theorem rds_8 (u : Nat → Int32) : ∀ (hs : List Rq) (a : (Nat → Int32) × List Rq), (hs.foldl (rdS u) a).1 8 = a.1 8 + nI hs.length
  | [], a => by show a.1 8 = a.1 8 + nI 0; rw [nI_0, Int32.add_zero]
  | r :: hs, a => by
    rw [List.foldl_cons, rds_8 u hs]
    show a.1 8 + 1 + nI hs.length = a.1 8 + nI (hs.length + 1)
    rw [nI_succ, Int32.add_assoc, Int32.add_comm 1]
theorem rds_l (u : Nat → Int32) : ∀ (hs : List Rq) (a : (Nat → Int32) × List Rq) (w : Nat), a.2.length = min w 10 → (hs.foldl (rdS u) a).2.length = min (w + hs.length) 10
  | [], a, w, h => h
  | r :: hs, a, w, h => by
    rw [List.foldl_cons, rds_l u hs (rdS u a r) (w + 1) (by show (List.take 10 (_ :: a.2)).length = _; rw [List.length_take, List.length_cons, h]; omega), List.length_cons]
    omega
def InvU (u : Nat → Int32) : Prop := (4 ≤ (u 0).toInt ∧ (u 0).toInt ≤ 24) ∧ (3 ≤ (u 1).toInt ∧ (u 1).toInt ≤ 12) ∧ (0 ≤ (u 2).toInt ∧ (u 2).toInt ≤ 3) ∧ (0 ≤ (u 3).toInt ∧ (u 3).toInt ≤ 20) ∧ (5 ≤ (u 4).toInt ∧ (u 4).toInt ≤ 200) ∧ (0 ≤ (u 5).toInt ∧ (u 5).toInt ≤ 100) ∧
  (0 ≤ (u 16).toInt ∧ (u 16).toInt < 24) ∧ (u 17 = 0 ∨ u 17 = 1 ∨ u 17 = 2) ∧ (u 19 = 0 ∨ u 19 = 1) ∧ (u 20 = 1 ∨ u 20 = 2)
def InvQ (u : Nat → Int32) (r : Rq) : Prop := (0 ≤ r.1.toInt ∧ r.1.toInt < (u 7).toInt) ∧ (0 ≤ r.2.1.toInt ∧ r.2.1.toInt < 24) ∧ (0 ≤ r.2.2.2.1.toInt ∧ r.2.2.2.1.toInt ≤ 9999)
def Inv (T : Nat) (s : Sg) : Prop := InvU s.1 ∧ s.2.1.length ≤ 12 ∧ (∀ r ∈ s.2.1, InvQ s.1 r) ∧ s.2.1.Pairwise (fun a b => a.1.toInt < b.1.toInt) ∧ ∃ w t : Nat, s.1 8 = nI w ∧ s.1 7 = nI t ∧ w + s.2.1.length ≤ t ∧ t ≤ T ∧ s.2.2.length = min w 10
theorem Inv.sub {T : Nat} {s : Sg} (h : Inv T s) {u : Nat → Int32} {rs : List Rq} {lg : List Rq} (hu : InvU u) (h7 : u 7 = s.1 7) (hrs : rs.Sublist s.2.1) (hw : ∃ d : Nat, u 8 = s.1 8 + nI d ∧ d + rs.length ≤ s.2.1.length ∧ ∀ w, s.2.2.length = min w 10 → lg.length = min (w + d) 10) : Inv T (u, rs, lg) := by
  obtain ⟨-, a1, a2, a3, w, t, a4, a5, a6, a7, a8⟩ := h
  obtain ⟨d, d1, d2, d3⟩ := hw
  refine ⟨hu, Nat.le_trans hrs.length_le a1, fun r hr => ?_, a3.sublist hrs, w + d, t, ?_, h7.trans a5, ?_, a7, d3 w a8⟩
  · have := a2 r (hrs.subset hr)
    unfold InvQ at this ⊢
    rw [show (u, rs, lg).1 7 = s.1 7 from h7]
    exact this
  · show u 8 = _
    rw [d1, a4, nI_add]
  · show w + d + rs.length ≤ t
    omega
theorem len_filter2 (p : Rq → Bool) : ∀ rs : List Rq, (rs.filter p).length + (rs.filter (fun r => !p r)).length = rs.length
  | [] => rfl
  | r :: rs => by
    have ih := len_filter2 p rs
    rw [List.filter_cons, List.filter_cons, List.length_cons]
    cases hp : p r with
    | true => show (r :: rs.filter p).length + (rs.filter _).length = _; rw [List.length_cons]; omega
    | false => show (rs.filter p).length + (r :: rs.filter _).length = _; rw [List.length_cons]; omega
theorem inv_read {T : Nat} {s : Sg} (h : Inv T s) : Inv T (readS s) := by
  have hu : ∀ k, ¬ k = 8 → ¬ k = 9 → (readS s).1 k = s.1 k := fun k k8 k9 => rds_u s.1 k8 k9 _ _
  refine h.sub (u := (readS s).1) (rs := (readS s).2.1) (lg := (readS s).2.2) ?_ (hu 7 (by decide) (by decide)) List.filter_sublist ⟨(s.2.1.filter (hitS s.1)).length, rds_8 _ _ _, Nat.le_of_eq (len_filter2 _ _), fun w hw => rds_l _ _ _ w hw⟩
  have := h.1
  unfold InvU at this ⊢
  rw [hu 0 (by decide) (by decide), hu 1 (by decide) (by decide), hu 2 (by decide) (by decide), hu 3 (by decide) (by decide), hu 4 (by decide) (by decide), hu 5 (by decide) (by decide), hu 16 (by decide) (by decide), hu 17 (by decide) (by decide), hu 19 (by decide) (by decide), hu 20 (by decide) (by decide)]
  exact this
theorem inv_u {T : Nat} {s : Sg} (h : Inv T s) {u : Nat → Int32} (hu : InvU u) (h7 : u 7 = s.1 7) (h8 : u 8 = s.1 8) : Inv T (u, s.2) :=
  h.sub (rs := s.2.1) (lg := s.2.2) hu h7 (List.Sublist.refl _) ⟨0, by rw [nI_0, Int32.add_zero]; exact h8, by omega, fun w hw => hw⟩
theorem opp_12 (d : Int32) : opp d = 1 ∨ opp d = 2 := by unfold opp; split <;> simp
theorem aim_12 {u : Nat → Int32} {rs : List Rq} (h : u 20 = 1 ∨ u 20 = 2) : (aimS u rs).2 = 1 ∨ (aimS u rs).2 = 2 := by
  unfold aimS
  split
  · exact h
  · split
    · exact h
    · exact opp_12 _
theorem aim_lt {u : Nat → Int32} {rs : List Rq} {k : Nat} (h : (aimS u rs).1 = some k) : k < rs.length := by
  unfold aimS at h
  split at h
  · rename_i hp; cases h; exact pick_lt hp
  · split at h
    · cases h
    · exact pick_lt h
theorem goal_in {T : Nat} {s : Sg} (h : Inv T s) {o : Option Nat} (ho : ∀ k, o = some k → k < s.2.1.length) : 0 ≤ (goalS s.1 s.2.1 o).toInt ∧ (goalS s.1 s.2.1 o).toInt < 24 := by
  cases o with
  | none => exact h.1.2.2.2.2.2.2.1
  | some k =>
    have hk := ho k rfl
    have hm : (s.2.1.getD k d0) ∈ s.2.1 := by
      rw [List.getD_eq_getElem?_getD, List.getElem?_eq_getElem hk]
      exact List.getElem_mem hk
    exact (h.2.2.1 _ hm).2.1
theorem i32_1 : ((1 : Int32).toInt) = 1 := by decide
theorem i32_m1 : ((-1 : Int32).toInt) = -1 := by decide
theorem add_in {a b : Int32} (h1 : -2147483648 ≤ a.toInt + b.toInt) (h2 : a.toInt + b.toInt < 2147483648) : (a + b).toInt = a.toInt + b.toInt := by
  rw [Int32.toInt_add]
  exact Int.bmod_eq_of_le (by omega) (by omega)
theorem sub_in {a b : Int32} (h1 : -2147483648 ≤ a.toInt - b.toInt) (h2 : a.toInt - b.toInt < 2147483648) : (a - b).toInt = a.toInt - b.toInt := by
  rw [Int32.toInt_sub]
  exact Int.bmod_eq_of_le (by omega) (by omega)
theorem inv_aim {T : Nat} {s : Sg} (h : Inv T s) {sw : Int32} (hs : sw = 1 ∨ sw = 2) : Inv T (aimU s.1 sw, s.2) := by
  obtain ⟨h0, h1, h2, h3, h4, h5, h6, h7, h8, h9⟩ := h.1
  exact inv_u h ⟨h0, h1, h2, h3, h4, h5, h6, h7, h8, hs⟩ rfl rfl
theorem inv_bgn {T : Nat} {s : Sg} (h : Inv T s) : Inv T (bgnS s) := by
  have ha := inv_aim h (aim_12 (rs := s.2.1) h.1.2.2.2.2.2.2.2.2.2)
  have hg := goal_in h (o := (aimS s.1 s.2.1).1) (fun k hk => aim_lt hk)
  obtain ⟨h0, h1, h2, h3, h4, h5, h6, h7, h8, h9⟩ := ha.1
  unfold bgnS bgnA
  generalize goalS s.1 s.2.1 (aimS s.1 s.2.1).1 = g at hg
  generalize hv : aimU s.1 (aimS s.1 s.2.1).2 = v at ha h0 h1 h2 h3 h4 h5 h6 h7 h8 h9
  have e16 : s.1 16 = v 16 := by rw [← hv]; rfl
  split
  · split
    · exact inv_read ha
    · rename_i hne
      split
      · refine inv_u ha ⟨h0, h1, h2, h3, h4, h5, ?_, ?_, h8, h9⟩ rfl rfl
        · show 0 ≤ (v 16 + (if v 16 < g then 1 else -1)).toInt ∧ (v 16 + (if v 16 < g then 1 else -1)).toInt < 24
          have h6' : 0 ≤ (v 16).toInt ∧ (v 16).toInt < 24 := h6
          split
          · rename_i hlt
            have := Int32.lt_iff_toInt_lt.mp hlt
            rw [add_in (by rw [i32_1]; omega) (by rw [i32_1]; omega), i32_1]
            omega
          · rename_i hlt
            have h10 : ¬ (v 16).toInt < g.toInt := fun z => hlt (Int32.lt_iff_toInt_lt.mpr z)
            have h11 : ¬ (v 16).toInt = g.toInt := fun z => hne (by rw [e16]; exact (Int32.toInt_inj.mp z).symm)
            rw [add_in (by rw [i32_m1]; omega) (by rw [i32_m1]; omega), i32_m1]
            omega
        · show (if v 16 < g then (1 : Int32) else 2) = 0 ∨ (if v 16 < g then (1 : Int32) else 2) = 1 ∨ (if v 16 < g then (1 : Int32) else 2) = 2
          split <;> simp
      · exact inv_read ha
  · by_cases hlt : (if v 17 = 1 then v 16 < g else g < v 16)
    · rw [show moveU v g = upd (upd (upd v 16 (v 16 + (if v 17 = 1 then 1 else -1))) 18 (v 18 + 1)) 11 (v 11 + 1) from if_pos hlt]
      refine inv_u ha ⟨h0, h1, h2, h3, h4, h5, ?_, h7, h8, h9⟩ rfl rfl
      show 0 ≤ (v 16 + (if v 17 = 1 then 1 else -1)).toInt ∧ (v 16 + (if v 17 = 1 then 1 else -1)).toInt < 24
      have h6' : 0 ≤ (v 16).toInt ∧ (v 16).toInt < 24 := h6
      by_cases h17 : v 17 = 1
      · rw [if_pos h17] at hlt
        rw [if_pos h17]
        have := Int32.lt_iff_toInt_lt.mp hlt
        rw [add_in (by rw [i32_1]; omega) (by rw [i32_1]; omega), i32_1]
        omega
      · rw [if_neg h17] at hlt
        rw [if_neg h17]
        have := Int32.lt_iff_toInt_lt.mp hlt
        rw [add_in (by rw [i32_m1]; omega) (by rw [i32_m1]; omega), i32_m1]
        omega
    · rw [show moveU v g = upd (upd (upd v 17 0) 18 (v 18 + v 3)) 13 (v 13 + 1) from if_neg hlt]
      exact inv_u ha ⟨h0, h1, h2, h3, h4, h5, h6, Or.inl rfl, h8, h9⟩ rfl rfl
theorem last_k {u : Nat → Int32} {k : Nat} (a : ¬ k = 18) (b : ¬ k = 19) (c : ¬ k = 15) (d : ¬ k = 6) : lastU u k = u k := by
  unfold lastU upd
  rw [if_neg d, if_neg c, if_neg b, if_neg a]
theorem coolR_01 {lim c d : Int32} (h : d = 0 ∨ d = 1) : coolR lim c d = 0 ∨ coolR lim c d = 1 := by
  unfold coolR
  split
  · exact Or.inr rfl
  · split
    · exact Or.inl rfl
    · exact h
theorem last_19 (u : Nat → Int32) : lastU u 19 = coolR (u 4) (coolH (u 18)) (u 19) := by
  unfold lastU upd
  rw [if_neg (by decide), if_neg (by decide), if_pos rfl]
theorem inv_last {T : Nat} {s : Sg} (h : Inv T s) : Inv T (lastU s.1, s.2) := by
  refine inv_u h ?_ (last_k (by decide) (by decide) (by decide) (by decide)) (last_k (by decide) (by decide) (by decide) (by decide))
  obtain ⟨h0, h1, h2, h3, h4, h5, h6, h7, h8, h9⟩ := h.1
  unfold InvU
  rw [last_k (k := 0) (by decide) (by decide) (by decide) (by decide), last_k (k := 1) (by decide) (by decide) (by decide) (by decide), last_k (k := 2) (by decide) (by decide) (by decide) (by decide), last_k (k := 3) (by decide) (by decide) (by decide) (by decide), last_k (k := 4) (by decide) (by decide) (by decide) (by decide), last_k (k := 5) (by decide) (by decide) (by decide) (by decide), last_k (k := 16) (by decide) (by decide) (by decide) (by decide), last_k (k := 17) (by decide) (by decide) (by decide) (by decide), last_k (k := 20) (by decide) (by decide) (by decide) (by decide)]
  refine ⟨h0, h1, h2, h3, h4, h5, h6, h7, ?_, h9⟩
  rw [last_19]
  exact coolR_01 h8
theorem inv_give {T : Nat} {s : Sg} (h : Inv T s) : Inv T (giveS s) := by
  have h' := h.1
  exact h.sub (u := (giveS s).1) (rs := (giveS s).2.1) (lg := (giveS s).2.2) h' rfl List.filter_sublist ⟨0, by rw [nI_0, Int32.add_zero]; rfl, by rw [Nat.zero_add]; exact List.length_filter_le _ _, fun w hw => hw⟩
theorem inv_end {T : Nat} {s : Sg} (h : Inv T s) : Inv T (endS s) := by
  unfold endS
  split
  · exact inv_last h
  · exact inv_last (inv_give h)
theorem inv_tick {T : Nat} {s : Sg} (h : Inv T s) : Inv T (tickS s) := inv_end (inv_bgn h)

