/-! ===== CommandScan: faultOf; the carrying out ===== -/
variable {n : Nat} {b B : Nat → Int32} {len : Int32} {c : Scn} {Q : AQ}
def SC (c : Scn) : Prop := Wd6 c.1 ∧ ∃ k : Nat, k ≤ 3 ∧ c.2.2.2.1 = nI k
def SI (p : Nat) (c : Scn) : Prop := SC c ∧ ∃ w : Nat, c.2.1 = 1 → (c.2.2.1 = nI w ∧ w ≤ p)
def SP (p : Nat) (r : Int32 × Scn) : Prop := SC r.2 ∧ (r.1 = -1 → SI (p + 1) r.2)
theorem SI.mono {p : Nat} (h : SI p c) : SI (p + 1) c := by
  obtain ⟨h1, w, h2⟩ := h
  exact ⟨h1, w, fun z => ⟨(h2 z).1, Nat.le_succ_of_le (h2 z).2⟩⟩
theorem sp_same {p : Nat} {v : Int32} (h : SI p c) : SP p (v, c) := ⟨h.1, fun _ => h.mono⟩
theorem sp_beh {p : Nat} {v a : Int32} (h : SI p c) : SP p (behC v a c) := by
  unfold behC
  by_cases h32 : v = 32
  · rw [if_pos h32]
    exact ⟨h.1, fun _ => ⟨h.1, 0, fun z => absurd (show (2 : Int32) = 1 from z) (by decide)⟩⟩
  · rw [if_neg h32]
    by_cases h59 : v = 59
    · rw [if_pos h59]
      by_cases hn : c.2.2.2.1 = wdN c.1
      · rw [if_pos hn]
        exact ⟨h.1, fun _ => ⟨h.1, 0, fun z => absurd (show (0 : Int32) = 1 from z) (by decide)⟩⟩
      · rw [if_neg hn]
        exact sp_same h
    · rw [if_neg h59]
      exact sp_same h
theorem take_si (hT : TB len B b n) {p : Nat} (hp : p < n) (h : SI p c) : SP p (takeC len B (nI p) c) := by
  have hn150 := hT.2.1
  obtain ⟨⟨hw6, k, hk3, hk⟩, w, hws⟩ := id h
  unfold takeC
  by_cases h0 : c.2.1 = 0
  · rw [if_pos h0]
    unfold frontC
    by_cases h32 : byteV len B (nI p) = 32
    · rw [if_pos h32]
      exact sp_same h
    · rw [if_neg h32]
      cases hl : inI (byteV len B (nI p)) 97 122 with
      | true =>
        rw [if_pos rfl]
        exact ⟨⟨hw6, k, hk3, hk⟩, fun _ => ⟨⟨hw6, k, hk3, hk⟩, p, fun _ => ⟨rfl, Nat.le_succ p⟩⟩⟩
      | false =>
        rw [if_neg (by decide)]
        exact sp_same h
  · rw [if_neg h0]
    by_cases h1 : c.2.1 = 1
    · rw [if_pos h1]
      have hw1 := hws h1
      unfold wordC
      cases hl : inI (byteV len B (nI p)) 97 122 with
      | true =>
        rw [if_pos rfl]
        exact sp_same h
      | false =>
        rw [if_neg (by decide)]
        by_cases hz : wordV len B c.2.2.1.toNatClampNeg (nI p).toNatClampNeg = 0
        · rw [if_pos hz]
          refine ⟨⟨Or.inl rfl, k, hk3, hk⟩, fun z => ?_⟩
          have z2 : nI w = -1 := hw1.1.symm.trans z
          exact absurd z2 (nI_m1 (by omega))
        · rw [if_neg hz]
          by_cases h32 : byteV len B (nI p) = 32
          · rw [if_pos h32]
            exact ⟨⟨wordV_6 _ _ _ _, 0, by decide, rfl⟩, fun _ => ⟨⟨wordV_6 _ _ _ _, 0, by decide, rfl⟩, 0, fun z => absurd (show (2 : Int32) = 1 from z) (by decide)⟩⟩
          · rw [if_neg h32]
            exact ⟨⟨wordV_6 _ _ _ _, k, hk3, hk⟩, fun z => absurd (show nI p = -1 from z) (nI_m1 (by omega))⟩
    · rw [if_neg h1]
      by_cases h2 : c.2.1 = 2
      · rw [if_pos h2]
        unfold gapC
        cases hd : inI (byteV len B (nI p)) 48 57 with
        | false =>
          rw [if_neg (by decide)]
          exact sp_beh h
        | true =>
          rw [if_pos rfl]
          by_cases ha : wdN c.1 ≤ c.2.2.2.1
          · rw [if_pos ha]
            exact sp_same h
          · rw [if_neg ha]
            by_cases hb : 3 ≤ c.2.2.2.1
            · rw [if_pos hb]
              exact sp_same h
            · rw [if_neg hb]
              have hk2 : k < 3 := by
                rcases Nat.lt_or_ge k 3 with z | z
                · exact z
                · exact absurd (show (3 : Int32) ≤ c.2.2.2.1 by rw [hk]; exact nI_le (a := 3) z (by omega)) hb
              have e : c.2.2.2.1 + 1 = nI (k + 1) := by rw [hk]; exact nI_1 k
              exact ⟨⟨hw6, k + 1, by omega, e⟩, fun _ => ⟨⟨hw6, k + 1, by omega, e⟩, 0, fun z => absurd (show (3 : Int32) = 1 from z) (by decide)⟩⟩
      · rw [if_neg h2]
        unfold numC
        cases hd : inI (byteV len B (nI p)) 48 57 with
        | false =>
          rw [if_neg (by decide)]
          exact sp_beh h
        | true =>
          rw [if_pos rfl]
          by_cases ha : 4 ≤ c.2.2.2.2.1
          · rw [if_pos ha]
            exact sp_same h
          · rw [if_neg ha]
            by_cases hb : 1 ≤ c.2.2.2.1
            · rw [if_pos hb]
              exact ⟨⟨hw6, k, hk3, hk⟩, fun _ => ⟨⟨hw6, k, hk3, hk⟩, 0, fun z => absurd z h1⟩⟩
            · rw [if_neg hb]
              exact sp_same h
theorem TB.l150 (hT : TB len B b n) : len.toInt ≤ 150 := by
  have h2 := hT.2.1
  rw [hT.1, nI_toInt (by omega)]
  omega
set_option maxRecDepth 20000 in
theorem c_faultOf (hT : TB len B b n) (hS : SC c) (hQ : ∀ c1, SC c1 → Q (.inl (some (.int (FC len B n 0 (setPl c 0))))) (scW 0 c1 ++ tcW 2 len B)) : Tr tX2_faultOf 0 0 [.ref 0, .ref 2] (scW 0 c ++ tcW 2 len B) Q := by
  have hn150 := hT.2.1
  have hl := hT.l150
  have hlen := hT.1
  refine Tr.of sX2_faultOf (by decide +kernel) (Nat.le_of_ble_eq_true rfl) fun X hX => ?_
  have fin : ∀ (c1 : Scn) (x y : Option Value), SI n c1 → FC len B n n c1 = FC len B n 0 (setPl c 0) → X 34 [some (.ref 0), some (.ref 2), x, y] [] (scW 0 c1 ++ tcW 2 len B) (0, 0) := by
    intro c1 x y hS1 he
    have hq := hQ c1 hS1.1
    rw [← he, FC_end] at hq
    unfold endC at hq
    obtain ⟨wd, pl, ws, nc, dg, N⟩ := c1
    obtain ⟨-, w, hws⟩ := hS1
    dsimp only at hq hws
    refine go hX (fun _ => none) 40 ?_
    refine And.intro (fun h0 => And.intro (fun h1 => ?_) (fun h1 => ?_)) (fun h0 => ?_)
    · rw [if_neg (show ¬ pl = 0 from h0), if_neg (show ¬ pl = 1 from h1), ← hlen] at hq
      exact And.intro (fun _ => hq) (fun z => absurd rfl z)
    · rw [if_neg (show ¬ pl = 0 from h0), if_pos (show pl = 1 from h1)] at hq
      obtain ⟨hw1, hw2⟩ := hws h1
      have e1 : ws.toNatClampNeg = w := by rw [hw1]; exact nI_c (by omega)
      rw [e1] at hq
      refine Tr.at [2, 3] (c_wordIn (len := len) (B := B) (fr := w) (en := n) hl hw1 hlen hw2 (by omega) ?_) rfl rfl rfl
      rcases wordV_6 len B w n with e | e | e | e | e | e <;> rw [e] at hq ⊢
      · rw [if_pos rfl] at hq
        exact And.intro (fun z => absurd rfl z) (fun _ => And.intro (fun z => absurd z (by decide)) (fun _ => hq))
      all_goals (rw [if_neg (by decide), ← hlen] at hq; exact And.intro (fun _ => And.intro (fun _ => hq) (fun z => absurd rfl z)) (fun z => absurd z (by decide)))
    · rw [if_pos (show pl = 0 from h0)] at hq
      exact hq
  have key : ∀ (d p : Nat) (av : Int32) (c1 : Scn) (y : Option Value), p + d = n → av = nI p → SI p c1 → FC len B n p c1 = FC len B n 0 (setPl c 0) → X 6 [some (.ref 0), some (.ref 2), some (.int av), y] [] (scW 0 c1 ++ tcW 2 len B) (0, 0) := by
    intro d
    induction d with
    | zero =>
      intro p av c1 y hp hav hS1 he
      rw [show p = n by omega] at hS1 he hav
      refine go hX (fun pc => if pc = 34 then some 4 else none) 40 ?_
      refine And.intro (fun _ => ?_) (fun z => absurd (show len ≤ av by rw [hlen, hav]; exact Int32.le_refl _) z)
      exact fin c1 _ y hS1 he
    | succ d ih =>
      intro p av c1 y hp hav hS1 he
      have hpn : p < n := by omega
      have hsp := take_si hT hpn hS1
      obtain ⟨⟨hw6, k, hk3, hk⟩, w, hws⟩ := id hS1
      refine go hX (fun pc => if pc = 6 then some 4 else none) 40 ?_
      refine And.intro (fun z => absurd (show len ≤ av from z) (by rw [hlen, hav]; exact nI_ge hpn (by omega))) (fun _ => ?_)
      refine c_take (c := c1) (w := w) (a := p) (n := k) hl hws hav (by omega) hw6 hk hk3 ?_
      rw [hav]
      rw [FC_step hpn] at he
      generalize takeC len B (nI p) c1 = r at hsp he
      refine And.intro (fun h1 => ?_) (fun h1 => ?_)
      · rw [if_pos h1] at he
        exact ih (p + 1) _ r.2 _ (by omega) (by rw [nI_1]) (hsp.2 h1) he
      · rw [if_neg h1] at he
        rw [← he] at hQ
        exact hQ r.2 hsp.1
  refine go hX (fun pc => if pc = 6 then some 4 else none) 40 ?_
  refine Tr.at [0, 1] (c_begin_ (c := c) ?_) rfl rfl rfl
  exact key n 0 0 (setPl c 0) none (by omega) rfl ⟨hS, 0, fun z => absurd (show (0 : Int32) = 1 from z) (by decide)⟩ rfl
def doA (u : UInt32) (N : Nat → Int32) (a : Kp) : Int32 × Kp :=
  if u = 1 then ((plateA false (N 0) (N 1) a).1, (plateA false (N 0) (N 1) a).2.2)
  else if u = 2 then ((requestA false (N 0) (N 1) (N 2) a).1, (requestA false (N 0) (N 1) (N 2) a).2.2)
  else if u = 3 then ((cancelA false (N 0) a).1, (cancelA false (N 0) a).2.2)
  else if u = 4 then ((setA false (N 0) (N 1) a).1, (setA false (N 0) (N 1) a).2.2)
  else if u = 5 then ((passA false (N 0) a).1, (passA false (N 0) a).2.2) else (1, a)
theorem doA_0 {N : Nat → Int32} {a : Kp} : doA 0 N a = (1, a) := by
  unfold doA
  rw [if_neg (by decide), if_neg (by decide), if_neg (by decide), if_neg (by decide), if_neg (by decide)]
theorem doA_1 {N : Nat → Int32} {a : Kp} : doA 1 N a = ((plateA false (N 0) (N 1) a).1, (plateA false (N 0) (N 1) a).2.2) := by
  unfold doA
  rw [if_pos rfl]
theorem doA_2 {N : Nat → Int32} {a : Kp} : doA 2 N a = ((requestA false (N 0) (N 1) (N 2) a).1, (requestA false (N 0) (N 1) (N 2) a).2.2) := by
  unfold doA
  rw [if_neg (by decide), if_pos rfl]
theorem doA_3 {N : Nat → Int32} {a : Kp} : doA 3 N a = ((cancelA false (N 0) a).1, (cancelA false (N 0) a).2.2) := by
  unfold doA
  rw [if_neg (by decide), if_neg (by decide), if_pos rfl]
theorem doA_4 {N : Nat → Int32} {a : Kp} : doA 4 N a = ((setA false (N 0) (N 1) a).1, (setA false (N 0) (N 1) a).2.2) := by
  unfold doA
  rw [if_neg (by decide), if_neg (by decide), if_neg (by decide), if_pos rfl]
theorem doA_5 {N : Nat → Int32} {a : Kp} : doA 5 N a = ((passA false (N 0) a).1, (passA false (N 0) a).2.2) := by
  unfold doA
  rw [if_neg (by decide), if_neg (by decide), if_neg (by decide), if_neg (by decide), if_pos rfl]
theorem ofN_d {w : Nat} (hw : w ≤ 5) : (w = 0 ∧ UInt32.ofNat w = 0) ∨ (w = 1 ∧ UInt32.ofNat w = 1) ∨ (w = 2 ∧ UInt32.ofNat w = 2) ∨ (w = 3 ∧ UInt32.ofNat w = 3) ∨ (w = 4 ∧ UInt32.ofNat w = 4) ∨ (w = 5 ∧ UInt32.ofNat w = 5) := by
  match w, hw with
  | 0, _ => exact Or.inl ⟨rfl, by decide⟩
  | 1, _ => exact Or.inr (Or.inl ⟨rfl, by decide⟩)
  | 2, _ => exact Or.inr (Or.inr (Or.inl ⟨rfl, by decide⟩))
  | 3, _ => exact Or.inr (Or.inr (Or.inr (Or.inl ⟨rfl, by decide⟩)))
  | 4, _ => exact Or.inr (Or.inr (Or.inr (Or.inr (Or.inl ⟨rfl, by decide⟩))))
  | 5, _ => exact Or.inr (Or.inr (Or.inr (Or.inr (Or.inr ⟨rfl, by decide⟩))))
theorem doA_cg {w : Nat} (hw : w ≤ 5) {N N1 : Nat → Int32} (h : ∀ j, j < needN w → N j = N1 j) (a : Kp) : doA (UInt32.ofNat w) N a = doA (UInt32.ofNat w) N1 a := by
  rcases ofN_d hw with ⟨e, e2⟩ | ⟨e, e2⟩ | ⟨e, e2⟩ | ⟨e, e2⟩ | ⟨e, e2⟩ | ⟨e, e2⟩ <;> rw [e2] <;> rw [e] at h
  · rw [doA_0, doA_0]
  · rw [doA_1, doA_1, h 0 (by decide), h 1 (by decide)]
  · rw [doA_2, doA_2, h 0 (by decide), h 1 (by decide), h 2 (by decide)]
  · rw [doA_3, doA_3, h 0 (by decide)]
  · rw [doA_4, doA_4, h 0 (by decide), h 1 (by decide)]
  · rw [doA_5, doA_5, h 0 (by decide)]
noncomputable def exF (n : Nat) (b : Nat → Int32) : Nat → Nat → Kp → Nat → Nat × Kp
  | 0, _, a, k => (k, a)
  | d + 1, p, a, k => if p < n then (if (doA (UInt32.ofNat (cmdF n b p).2.2.1) (fun j => (cmdF n b p).2.2.2.getD j 0) a).1 = 0 then exF n b d (cmdF n b p).2.1 (doA (UInt32.ofNat (cmdF n b p).2.2.1) (fun j => (cmdF n b p).2.2.2.getD j 0) a).2 (k + 1) else (k, (doA (UInt32.ofNat (cmdF n b p).2.2.1) (fun j => (cmdF n b p).2.2.2.getD j 0) a).2)) else (k, a)
noncomputable def exC (len : Int32) (B b : Nat → Int32) : Nat → Nat → Scn → Kp → Nat → Nat × Kp
  | 0, _, _, a, k => (k, a)
  | d + 1, p, c, a, k => if b p = 59 then (if (doA (takeC len B (nI p) c).2.1 (takeC len B (nI p) c).2.2.2.2.2.2 a).1 = 0 then exC len B b d (p + 1) (takeC len B (nI p) c).2 (doA (takeC len B (nI p) c).2.1 (takeC len B (nI p) c).2.2.2.2.2.2 a).2 (k + 1) else (k, (doA (takeC len B (nI p) c).2.1 (takeC len B (nI p) c).2.2.2.2.2.2 a).2)) else exC len B b d (p + 1) (takeC len B (nI p) c).2 a k
theorem exC_seg {p q : Nat} {c c1 : Scn} {a : Kp} {k : Nat} (h : SSeg len B b n p c q c1) : exC len B b (n - p) p c a k = exC len B b (n - q) q c1 a k := by
  refine h (fun p c => exC len B b (n - p) p c a k = exC len B b (n - q) q c1 a k) (fun p c c2 hs he => ?_) rfl
  have hp := hs.1
  have e : exC len B b (n - p) p c a k = exC len B b (n - (p + 1)) (p + 1) (takeC len B (nI p) c).2 a k := by
    rw [show n - p = (n - (p + 1)) + 1 by omega]
    exact if_neg hs.2.2
  rw [e, hs.2.1]
  exact he
theorem ex_eq (hT : TB len B b n) : ∀ (d p : Nat) (c : Scn) (a : Kp) (k : Nat), n - p ≤ d → p ≤ n → isA n b 32 32 p = false → c.2.1 = 0 → fltF n b d p = -1 → exC len B b (n - p) p c a k = exF n b d p a k
  | 0, p, c, a, k, hd, hp, h32, h0, hf => by
    rw [show n - p = 0 by omega]
    rfl
  | d + 1, p, c, a, k, hd, hp, h32, h0, hf => by
    by_cases hpn : p < n
    · have e : fltF n b (d + 1) p = if (cmdF n b p).1 = true then fltF n b d (cmdF n b p).2.1 else nI (cmdF n b p).2.1 := if_pos hpn
      rw [e] at hf
      have hcb := cmdF_b (b := b) hp
      have hn150 := hT.2.1
      cases h : (cmdF n b p).1 with
      | false =>
        rw [h, if_neg (by decide)] at hf
        exact absurd hf (nI_m1 (by omega))
      | true =>
        rw [h, if_pos rfl] at hf
        obtain ⟨s, c1, c2, s1, s2, s3, s4, s5, s6, s7, s8⟩ := (cmd_eq hT hpn h32 h0).1 h
        have e2 : exF n b (d + 1) p a k = if (doA (UInt32.ofNat (cmdF n b p).2.2.1) (fun j => (cmdF n b p).2.2.2.getD j 0) a).1 = 0 then exF n b d (cmdF n b p).2.1 (doA (UInt32.ofNat (cmdF n b p).2.2.1) (fun j => (cmdF n b p).2.2.2.getD j 0) a).2 (k + 1) else (k, (doA (UInt32.ofNat (cmdF n b p).2.2.1) (fun j => (cmdF n b p).2.2.2.getD j 0) a).2) := if_pos hpn
        have e3 : exC len B b (n - s) s c1 a k = if (doA c2.1 c2.2.2.2.2.2 a).1 = 0 then exC len B b (n - (s + 1)) (s + 1) c2 (doA c2.1 c2.2.2.2.2.2 a).2 (k + 1) else (k, (doA c2.1 c2.2.2.2.2.2 a).2) := by
          rw [show n - s = (n - (s + 1)) + 1 by omega]
          refine (if_pos s3).trans ?_
          rw [s4]
        have e4 : doA c2.1 c2.2.2.2.2.2 a = doA (UInt32.ofNat (cmdF n b p).2.2.1) (fun j => (cmdF n b p).2.2.2.getD j 0) a := by
          rw [s6]
          exact doA_cg hcb.2.2.2.1 (fun j hj => s7 j hj) a
        rw [exC_seg s1, e3, e2, e4]
        generalize doA (UInt32.ofNat (cmdF n b p).2.2.1) (fun j => (cmdF n b p).2.2.2.getD j 0) a = q
        by_cases hq : q.1 = 0
        · rw [if_pos hq, if_pos hq, exC_seg (seg_sp0 hT s5 (n - (s + 1)) (s + 1))]
          have e5 : spn n b 32 32 (n - (s + 1)) (s + 1) = (cmdF n b p).2.1 := s8.symm
          rw [e5]
          refine ex_eq hT d _ c2 q.2 (k + 1) (by have := hcb.2.2.1 h; omega) hcb.2.1 ?_ s5 hf
          rw [s8]
          exact runE_stop _
        · rw [if_neg hq, if_neg hq]
    · have e : exF n b (d + 1) p a k = (k, a) := if_neg hpn
      rw [e, show n - p = 0 by omega]
      rfl
