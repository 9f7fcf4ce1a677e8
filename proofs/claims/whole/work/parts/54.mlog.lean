/-! ===== the reference: logs, reads ===== -/
variable {g P H X G f : Nat → Int32} {h : Int64} {Q : AQ}
set_option maxRecDepth 20000 in
theorem m_logs {pv : Int32} {p : Nat} (hp : pv = nI p) (hp12 : p < 12)
    (hQ : ∀ g1 : Nat → Int32, (∀ j, j < 5 → g1 (83 + j) = rf (nuN g p, trN g p, g (23 + 5 * p + 2), g 6, z01 (dlN g p < g 6)) j) → (∀ k, 88 ≤ k → k ≤ 132 → g1 k = g (k - 5)) → g1 22 = g 22 + (if g 22 < 10 then 1 else 0) → g1 8 = g 8 + 1 → g1 9 = g 9 + z01 (dlN g p < g 6) → (∀ k, k < 83 → ¬ k = 22 → ¬ k = 8 → ¬ k = 9 → g1 k = g k) →
      Q (.inl none) (mdW g1 P H X G (upd f 5 (if nuN g p = f 4 then g 6 else f 5)) h)) : Tr tX10_logs 0 0 [.ref 0, .int pv] (mdW g P H X G f h) Q := by
  refine Tr.of sX10_logs (by decide +kernel) (Nat.le_of_ble_eq_true rfl) fun Y hX => ?_
  generalize hf' : upd f 5 (if nuN g p = f 4 then g 6 else f 5) = f' at hQ
  have st : ∀ (la : Int32) (g1 : Nat → Int32), z01 (dlN g p < g 6) = la → (∀ k, 88 ≤ k → k ≤ 132 → g1 k = g (k - 5)) → (∀ k, k ≤ 87 → g1 k = g k) → Y 83 [some (.ref 0), some (.int pv), some (.int la)] [] (mdW g1 P H X G f' h) (0, 0) := by
    intro la g1 hla h1 h2
    have h01 : la = 0 ∨ la = 1 := by rw [← hla]; exact z01_c
    have fin : ∀ c l : Int32, c = g 22 + (if g 22 < 10 then 1 else 0) → l = g 9 + la → Q (.inl none) (mdW (upd (upd (upd (upd (upd (upd (upd (upd g1 83 (nuN g p)) 84 (trN g p)) 85 (g (23 + 5 * p + 2))) 86 (g1 6)) 87 la) 22 c) 8 (g1 8 + 1)) 9 l) P H X G f' h) := by
      intro c l hc hl
      refine hQ _ ?_ ?_ ?_ ?_ ?_ ?_
      · rw [hla]
        intro j hj
        match j, hj with
        | 0, _ => simp [upd, rf]
        | 1, _ => simp [upd, rf]
        | 2, _ => simp [upd, rf]
        | 3, _ => simp [upd, rf]; exact h2 6 (by decide)
        | 4, _ => simp [upd, rf]
      · intro k ha hb
        unfold upd
        rw [if_neg (by omega), if_neg (by omega), if_neg (by omega), if_neg (by omega), if_neg (by omega), if_neg (by omega), if_neg (by omega), if_neg (by omega)]
        exact h1 k ha hb
      · rw [← hc]
        simp [upd]
      · rw [← h2 8 (by decide)]
        simp [upd]
      · rw [hla, ← hl]
        simp [upd]
      · intro k ha h22 h8 h9
        unfold upd
        rw [if_neg h9, if_neg h8, if_neg h22, if_neg (by omega), if_neg (by omega), if_neg (by omega), if_neg (by omega), if_neg (by omega)]
        exact h2 k (by omega)
    refine go hX (fun _ => none) 100 ?_
    refine m_of (g := g1) (v := nuN g p) hp (show (0 : Int32) = nI 0 from rfl) (by omega) (h2 _ (by omega)) ?_
    refine ⟨in_lit (by decide), ?_⟩
    refine m_of (g := upd g1 83 (nuN g p)) (v := trN g p) hp (show (1 : Int32) = nI 1 from rfl) (by omega) (by unfold upd; rw [if_neg (by omega)]; exact h2 _ (by omega)) ?_
    refine ⟨in_lit (by decide), ?_⟩
    refine m_of (g := upd (upd g1 83 (nuN g p)) 84 (trN g p)) (v := g (23 + 5 * p + 2)) hp (show (2 : Int32) = nI 2 from rfl) (by omega) (by unfold upd; rw [if_neg (by omega), if_neg (by omega)]; exact h2 _ (by omega)) ?_
    refine ⟨in_lit (by decide), in_lit (by decide), in_lit (by decide), ?_⟩
    have g22 : g1 22 = g 22 := h2 22 (by decide)
    have g9 : g1 9 = g 9 := h2 9 (by decide)
    refine And.intro (fun hl => ⟨in_lit (by decide), in_lit (by decide), in_lit (by decide), ?_⟩) (fun hl => ⟨in_lit (by decide), in_lit (by decide), in_lit (by decide), ?_⟩)
    · subst hl
      refine And.intro (fun hc => ⟨in_lit (by decide), in_lit (by decide), in_lit (by decide), in_lit (by decide), And.intro (fun hl => ⟨in_lit (by decide), ?_⟩) (fun hl => absurd rfl hl)⟩) (fun hc => ⟨in_lit (by decide), in_lit (by decide), in_lit (by decide), in_lit (by decide), And.intro (fun hl => ⟨in_lit (by decide), ?_⟩) (fun hl => absurd rfl hl)⟩)
      · exact fin (g1 22 + 0) (g1 9 + 0) (by rw [g22, if_neg (Int32.not_lt.mpr (by rw [← g22]; exact hc))]) (by rw [g9])
      · exact fin (g1 22 + 1) (g1 9 + 0) (by rw [g22, if_pos (Int32.not_le.mp (by rw [← g22]; exact hc))]) (by rw [g9])
    · have h1l := h01.resolve_left hl
      subst h1l
      refine And.intro (fun hc => ⟨in_lit (by decide), in_lit (by decide), in_lit (by decide), in_lit (by decide), And.intro (fun hl => absurd hl (by decide)) (fun hl => ⟨in_lit (by decide), ?_⟩)⟩) (fun hc => ⟨in_lit (by decide), in_lit (by decide), in_lit (by decide), in_lit (by decide), And.intro (fun hl => absurd hl (by decide)) (fun hl => ⟨in_lit (by decide), ?_⟩)⟩)
      · exact fin (g1 22 + 0) (g1 9 + 1) (by rw [g22, if_neg (Int32.not_lt.mpr (by rw [← g22]; exact hc))]) (by rw [g9])
      · exact fin (g1 22 + 1) (g1 9 + 1) (by rw [g22, if_pos (Int32.not_le.mp (by rw [← g22]; exact hc))]) (by rw [g9])
  have key : ∀ (d i : Nat) (iv : Int32) (g1 : Nat → Int32), i = 87 + d → i ≤ 132 → iv = nI i → (∀ k, i < k → k ≤ 132 → g1 k = g (k - 5)) → (∀ k, k ≤ i → g1 k = g k) → Y 35 [some (.ref 0), some (.int pv), some (.int iv)] [] (mdW g1 P H X G f' h) (0, 0) := by
    intro d
    induction d with
    | zero =>
      intro i iv g1 hi hi2 hv h1 h2
      refine go hX (fun pc => if pc = 83 then some 3 else none) 60 ?_
      have hlt : iv < 88 := by rw [hv]; exact nI_lt (b := 88) (by omega) (by decide)
      refine And.intro (fun _ => ⟨in_lit (by decide), ?_⟩) (fun h => absurd hlt h)
      have g6 : g1 6 = g 6 := h2 6 (by omega)
      refine m_of (g := g1) (v := dlN g p) hp (show (3 : Int32) = nI 3 from rfl) (by omega) (h2 _ (by omega)) ?_
      refine And.intro (fun hl => ?_) (fun hl => ?_)
      · exact st 0 g1 (z01_f (Int32.not_lt.mpr (by rw [← g6]; exact hl))) (fun k ha hb => h1 k (by omega) hb) (fun k hk => h2 k (by omega))
      · exact st 1 g1 (z01_t (Int32.not_le.mp (by rw [← g6]; exact hl))) (fun k ha hb => h1 k (by omega) hb) (fun k hk => h2 k (by omega))
    | succ d ih =>
      intro i iv g1 hi hi2 hv h1 h2
      have v0 : vp_in iv 133 := by rw [hv]; exact in_nI (by omega) (by decide)
      have v1 : iv.toNatClampNeg = i := by rw [hv]; exact nI_clamp (by omega)
      have e5 : iv - 5 = nI (i - 5) := by rw [hv]; exact sub_nI (a := i) (b := 5) (by omega)
      have v2 : vp_in (iv - 5) 133 := by rw [e5]; exact in_nI (by omega) (by decide)
      have v3 : (iv - 5).toNatClampNeg = i - 5 := by rw [e5]; exact nI_clamp (by omega)
      refine go hX (fun pc => if pc = 35 then some 3 else none) 60 ?_
      refine And.intro (fun h => absurd h (by rw [hv]; exact nI_nlt (b := 88) (by omega) (by omega))) (fun _ => ⟨v2, v0, ?_⟩)
      rw [v1, v3]
      have em : iv + -1 = nI (i - 1) := by rw [show iv + -1 = iv - 1 from (Int32.sub_eq_add_neg iv 1).symm, hv]; exact sub_nI (a := i) (b := 1) (by omega)
      refine ih (i - 1) (iv + -1) _ (by omega) (by omega) em ?_ ?_
      · intro k ha hb
        show upd g1 i (g1 (i - 5)) k = _
        unfold upd
        by_cases hk : k = i
        · rw [if_pos hk, hk]
          exact h2 (i - 5) (by omega)
        · rw [if_neg hk]
          exact h1 k (by omega) hb
      · intro k ha
        show upd g1 i (g1 (i - 5)) k = _
        unfold upd
        rw [if_neg (by omega)]
        exact h2 k (by omega)
  refine go hX (fun pc => if pc = 35 then some 3 else none) 60 ?_
  refine m_of (v := nuN g p) hp (show (0 : Int32) = nI 0 from rfl) (by omega) rfl ?_
  refine And.intro (fun hw => ?_) (fun hw => ⟨in_lit (by decide), ?_⟩)
  · rw [if_neg hw] at hf'
    subst hf'
    exact key 45 132 132 g rfl (by decide) rfl (fun k ha hb => absurd ha (by omega)) (fun k _ => rfl)
  · rw [if_pos hw] at hf'
    subst hf'
    exact key 45 132 132 g rfl (by decide) rfl (fun k ha hb => absurd ha (by omega)) (fun k _ => rfl)
