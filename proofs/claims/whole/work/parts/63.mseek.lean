/-! ===== the reference: readIn ===== -/
variable {g P H X G f : Nat → Int32} {h : Int64} {Q : AQ} {T : Nat} {s : Sg}
theorem raF_no {x t : Int32} : ∀ {hs : List Rq} {x0 : Int32}, (∀ r ∈ hs, ¬ r.1 = x) → raF x t hs x0 = x0
  | [], _, _ => rfl
  | r :: hs, x0, h => by
    show raF x t hs (if r.1 = x then t else x0) = x0
    rw [if_neg (h r List.mem_cons_self)]
    exact raF_no fun r hr => h r (List.mem_cons_of_mem _ hr)
theorem raF_t {x t : Int32} : ∀ {hs : List Rq}, raF x t hs t = t
  | [] => rfl
  | r :: hs => by
    show raF x t hs (if r.1 = x then t else t) = t
    rw [show (if r.1 = x then t else t) = t by split <;> rfl]
    exact raF_t
theorem raF_yes {x t : Int32} : ∀ {hs : List Rq} {x0 : Int32}, (∃ r ∈ hs, r.1 = x) → raF x t hs x0 = t
  | [], _, h => by obtain ⟨r, hr, _⟩ := h; cases hr
  | r :: hs, x0, h => by
    show raF x t hs (if r.1 = x then t else x0) = t
    by_cases hx : r.1 = x
    · rw [if_pos hx]
      exact raF_t
    · rw [if_neg hx]
      obtain ⟨r', hr', h2⟩ := h
      rcases List.mem_cons.mp hr' with z | z
      · exact absurd (z ▸ h2) hx
      · exact raF_yes ⟨r', z, h2⟩
theorem fndN_none {f : Nat → Int32} {x : Int32} : ∀ {m i : Nat}, fndN f x m i = none → ∀ k, i ≤ k → k < i + m → ¬ f k = x
  | 0, i, _, k, h1, h2 => by omega
  | m + 1, i, hf, k, h1, h2 => by
    unfold fndN at hf
    split at hf
    · cases hf
    · rename_i hne
      by_cases hk : k = i
      · rw [hk]; exact hne
      · exact fndN_none hf k (by omega) (by omega)
theorem fndL_none {x : Int32} {rs : List Rq} : fndL x rs = none ↔ ∀ r ∈ rs, ¬ r.1 = x := by
  constructor
  · intro hn r hr
    obtain ⟨k, hk⟩ := List.getElem?_of_mem hr
    have hkl := (List.getElem?_eq_some_iff.mp hk).1
    have := fndN_none hn k (Nat.zero_le _) (by omega)
    rw [List.getD_eq_getElem?_getD, hk] at this
    exact this
  · intro hall
    cases hf : fndL x rs with
    | none => rfl
    | some k =>
      obtain ⟨-, h1, h2⟩ := fndN_lt hf
      have hkl : k < rs.length := by omega
      rw [List.getD_eq_getElem?_getD, List.getElem?_eq_getElem hkl] at h2
      exact absurd h2 (hall _ (List.getElem_mem hkl))
theorem filter_f {α : Type} : ∀ l : List α, l.filter (fun _ => false) = []
  | [] => rfl
  | _ :: l => filter_f l
theorem filter_t {α : Type} : ∀ l : List α, l.filter (fun _ => !false) = l
  | [] => rfl
  | a :: l => congrArg (a :: ·) (filter_t l)
theorem bgn_split (s : Sg) : ∃ p : Rq → Bool, hitsS s = s.2.1.filter p ∧ (bgnS s).2.1 = s.2.1.filter (fun r => !p r) := by
  unfold hitsS bgnS bgnA
  by_cases h17 : s.1 17 = 0
  · rw [if_pos h17, if_pos h17]
    by_cases hg : goalS s.1 s.2.1 (aimS s.1 s.2.1).1 = s.1 16
    · rw [if_pos hg, if_pos hg]
      exact ⟨hitS (aimU s.1 (aimS s.1 s.2.1).2), rfl, rfl⟩
    · rw [if_neg hg, if_neg hg]
      by_cases h19 : s.1 19 = 0
      · rw [if_pos h19, if_pos h19]
        exact ⟨fun _ => false, (filter_f _).symm, (filter_t _).symm⟩
      · rw [if_neg h19, if_neg h19]
        exact ⟨hitS (aimU s.1 (aimS s.1 s.2.1).2), rfl, rfl⟩
  · rw [if_neg h17, if_neg h17]
    exact ⟨fun _ => false, (filter_f _).symm, (filter_t _).symm⟩
theorem bgn_6 (s : Sg) : (bgnS s).1 6 = s.1 6 := by
  unfold bgnS bgnA
  split
  · split
    · exact rds_u _ (by decide) (by decide) _ _
    · split
      · rfl
      · exact rds_u _ (by decide) (by decide) _ _
  · exact moveU_k (by decide) (by decide) (by decide) (by decide) (by decide)
theorem end_sub (s : Sg) : (endS s).2.1.Sublist s.2.1 := by
  unfold endS
  split
  · exact List.Sublist.refl _
  · exact List.filter_sublist
theorem seek_step (hI : Inv T s) {x : Int32} : (fndL x (bgnS s).2.1 = none → (¬ fndL x s.2.1 = none) → raF x (s.1 6) (hitsS s) (-1) = (bgnS s).1 6 ∧ fndL x (tickS s).2.1 = none) ∧ (¬ fndL x (bgnS s).2.1 = none → raF x (s.1 6) (hitsS s) (-1) = -1) := by
  obtain ⟨p, h1, h2⟩ := bgn_split s
  constructor
  · intro hb hs
    have hb' := fndL_none.mp hb
    refine ⟨?_, fndL_none.mpr fun r hr => hb' r ((end_sub (bgnS s)).subset hr)⟩
    rw [bgn_6]
    refine raF_yes ?_
    have : ∃ r ∈ s.2.1, r.1 = x := by
      apply Classical.byContradiction
      intro hno
      exact hs (fndL_none.mpr fun r hr hx => hno ⟨r, hr, hx⟩)
    obtain ⟨r, hr, hx⟩ := this
    refine ⟨r, ?_, hx⟩
    rw [h1]
    refine List.mem_filter.mpr ⟨hr, ?_⟩
    cases hp : p r with
    | true => rfl
    | false =>
      refine absurd hx (hb' r ?_)
      rw [h2]
      exact List.mem_filter.mpr ⟨hr, by rw [hp]; rfl⟩
  · intro hb
    refine raF_no fun r hr hx => hb (fndL_none.mpr fun r' hr' hx' => ?_)
    rw [h1] at hr
    rw [h2] at hr'
    obtain ⟨m1, m2⟩ := List.mem_filter.mp hr
    obtain ⟨m3, m4⟩ := List.mem_filter.mp hr'
    have hpw := hI.2.2.2.1
    have : r = r' := by
      obtain ⟨i, hi⟩ := List.getElem?_of_mem m1
      obtain ⟨j, hj⟩ := List.getElem?_of_mem m3
      obtain ⟨hi1, hi2⟩ := List.getElem?_eq_some_iff.mp hi
      obtain ⟨hj1, hj2⟩ := List.getElem?_eq_some_iff.mp hj
      have hp := List.pairwise_iff_getElem.mp hpw
      rcases Nat.lt_trichotomy i j with q | q | q
      · have := hp i j hi1 hj1 q
        rw [hi2, hj2, hx, hx'] at this
        omega
      · subst q
        rw [hi2] at hj2
        exact hj2
      · have := hp j i hj1 hi1 q
        rw [hi2, hj2, hx, hx'] at this
        omega
    rw [this, ] at m2
    rw [m2] at m4
    cases m4
def readInA (x : Int32) (s : Sg) : Int32 × Int32 := if fndL x s.2.1 = none then (1, 0) else (0, seekV x 500 s)
set_option maxRecDepth 20000 in
theorem m_readIn {x : Int32} (hR : RS g s) (hI : Inv T s) (h4 : f 4 = -1) (hQ : ∀ g1 H1 f1 : Nat → Int32, RS g1 s → (∀ k, ¬ k = 3 → ¬ k = 5 → f1 k = f k) → f1 3 = (readInA x s).1 → Q (.inl (some (.int (readInA x s).2))) (mdW g1 P H1 X G f1 h)) : Tr tX10_readIn 0 0 [.ref 0, .int x] (mdW g P H X G f h) Q := by
  refine Tr.of sX10_readIn (by decide +kernel) (Nat.le_of_ble_eq_true rfl) fun Y hX => ?_
  unfold readInA at hQ
  refine go hX (fun pc => if pc = 39 then some 3 else none) 60 ?_
  refine m_placeOf hR.2.1 hI.2.1 ?_
  rw [last_eq hR hI]
  have hx1 : ix (fndL x s.2.1) = -1 ↔ fndL x s.2.1 = none := ix_m1 fun k hk => by have := fndL_lt hk; have := hI.2.1; omega
  refine And.intro (fun hz => ?_) (fun hz => ?_)
  · have hne : ¬ fndL x s.2.1 = none := fun z => hz (hx1.mpr z)
    rw [if_neg hne] at hQ
    refine m_throws ?_
    refine And.intro (fun _ => ?_) (fun z => absurd rfl z)
    refine m_holds (f := upd f 3 0) (fun H1 hH1 => ?_)
    have stop : ∀ (jv : Int32) (g1 : Nat → Int32) (v : Int32), v = seekV x 500 s → Y 65 [some (.ref 0), some (.int x), some (.int jv)] [] (mdW g1 P H1 X G (upd (upd (upd f 3 0) 4 x) 5 v) h) (0, 0) := by
      intro jv g1 v hv
      refine go hX (fun _ => none) 40 ?_
      refine m_lets (f := upd (upd (upd (upd f 3 0) 4 x) 5 v) 4 (-1)) (fun g2 hg2 => ?_)
      have := hQ g2 H1 (upd (upd (upd (upd f 3 0) 4 x) 5 v) 4 (-1)) (hR.cg hI.rb (fun k hk => (hg2 k hk).trans (hH1 k hk))) (fun k k3 k5 => ?_) rfl
      · rw [← hv] at this
        exact this
      · by_cases k4 : k = 4
        · rw [k4, upd_i, h4]
        · rw [upd_o k4, upd_o k5, upd_o k4, upd_o k3]
    have key : ∀ (d i : Nat) (jv : Int32) (s1 : Sg) (g1 : Nat → Int32), i + d = 500 → jv = nI i → Inv T s1 → RS g1 s1 → seekV x d s1 = seekV x 500 s → ¬ fndL x s1.2.1 = none → Y 39 [some (.ref 0), some (.int x), some (.int jv)] [] (mdW g1 P H1 X G (upd (upd (upd f 3 0) 4 x) 5 (-1)) h) (0, 0) := by
      intro d
      induction d with
      | zero =>
        intro i jv s1 g1 hi hj hIs hRs he hne1
        refine go hX (fun pc => if pc = 65 then some 3 else none) 40 ?_
        exact And.intro (fun _ => stop _ _ _ he) (fun h => absurd (by rw [hj, show i = 500 by omega]; exact Int32.le_refl _) h)
      | succ d ih =>
        intro i jv s1 g1 hi hj hIs hRs he hne1
        have e1 : ix (fndL x s1.2.1) = -1 ↔ fndL x s1.2.1 = none := ix_m1 fun k hk => by have := fndL_lt hk; have := hIs.2.1; omega
        obtain ⟨k1, k2⟩ := seek_step hIs (x := x)
        refine go hX (fun pc => if pc = 39 then some 3 else if pc = 65 then some 3 else none) 40 ?_
        refine And.intro (fun h => absurd h (by rw [hj]; exact nI_ge (b := 500) (by omega) (by decide))) (fun _ => ?_)
        refine m_placeOf hRs.2.1 hIs.2.1 ?_
        rw [last_eq hRs hIs]
        refine And.intro (fun z => absurd (e1.mp z) hne1) (fun _ => ?_)
        refine m_ticks (f := upd (upd (upd f 3 0) 4 x) 5 (-1)) hRs hIs (fun g2 hR2 => ?_)
        rw [upd5_5]
        have hra : raF (upd (upd (upd f 3 0) 4 x) 5 (-1) 4) (s1.1 6) (hitsS s1) (upd (upd (upd f 3 0) 4 x) 5 (-1) 5) = raF x (s1.1 6) (hitsS s1) (-1) := rfl
        rw [hra]
        by_cases hb : fndL x (bgnS s1).2.1 = none
        · obtain ⟨q1, q2⟩ := k1 hb hne1
          rw [q1]
          have hv : (bgnS s1).1 6 = seekV x 500 s := by rw [← he]; exact (if_pos hb).symm
          -- one more look, then the end
          have hend : Y 39 [some (.ref 0), some (.int x), some (.int (jv + 1))] [] (mdW g2 P H1 X G (upd (upd (upd f 3 0) 4 x) 5 ((bgnS s1).1 6)) h) (0, 0) := by
            refine go hX (fun pc => if pc = 65 then some 3 else none) 40 ?_
            refine And.intro (fun _ => stop _ _ _ hv) (fun _ => ?_)
            refine m_placeOf hR2.2.1 (inv_tick hIs).2.1 ?_
            rw [last_eq hR2 (inv_tick hIs), q2]
            exact And.intro (fun _ => stop _ _ _ hv) (fun z => absurd rfl z)
          exact hend
        · rw [k2 hb]
          by_cases ht : fndL x (tickS s1).2.1 = none
          · have hv : (-1 : Int32) = seekV x 500 s := by rw [← he]; exact ((if_neg hb).trans (if_pos ht)).symm
            have hend : Y 39 [some (.ref 0), some (.int x), some (.int (jv + 1))] [] (mdW g2 P H1 X G (upd (upd (upd f 3 0) 4 x) 5 (-1)) h) (0, 0) := by
              refine go hX (fun pc => if pc = 65 then some 3 else none) 40 ?_
              refine And.intro (fun _ => stop _ _ _ hv) (fun _ => ?_)
              refine m_placeOf hR2.2.1 (inv_tick hIs).2.1 ?_
              rw [last_eq hR2 (inv_tick hIs), ht]
              exact And.intro (fun _ => stop _ _ _ hv) (fun z => absurd rfl z)
            exact hend
          · exact ih (i + 1) (jv + 1) (tickS s1) g2 (by omega) (by rw [hj]; exact nI_1 i) (inv_tick hIs) hR2 (by rw [← he]; exact ((if_neg hb).trans (if_neg ht)).symm) ht
    exact key 500 0 0 s g (by omega) rfl hI hR rfl hne
  · rw [if_pos (hx1.mp hz)] at hQ
    refine m_throws ?_
    refine And.intro (fun z => absurd z (by decide)) (fun _ => ?_)
    exact hQ g H (upd f 3 1) hR (fun k k3 _ => upd_o k3) rfl
