/-! ===== the law's loop, and its start ===== -/
variable {X : WK} {Q : AQ} {Ls : Nat} {xs : Nat → Int32}
theorem ls4 {k : Nat} (hL : Ls ≤ 2048) (hk : k ≤ 4096) : Int32.ofNat Ls - 4 < nI k ↔ Ls < k + 4 := by
  rw [Int32.lt_iff_toInt_lt, Int32.toInt_sub, nI_toInt (n := k) (by omega), show (Int32.ofNat Ls).toInt = (Ls : Int) from nI_toInt (n := Ls) (by omega), show ((4 : Int32).toInt) = 4 by decide, Int.bmod_eq_of_le (by omega) (by omega)]
  omega
theorem swK_all {K : Nat → Prop} {x : Int32} {df : Nat} : ∀ (ts : List Nat) (lo : Int32), (∀ t ∈ ts, K t) → K df → swK K x df lo ts
  | [], _, _, h => h
  | t :: ts, lo, h, hd => ⟨fun _ => h t List.mem_cons_self, fun _ => swK_all ts (lo + 1) (fun u hu => h u (List.mem_cons_of_mem _ hu)) hd⟩
theorem vI {j c : Nat} (h : 4 * j + 4 ≤ Ls) (hL : Ls ≤ 2048) (hc : c < 4) {v : Int32} (hv : v = nI c) : vp_in (nI (4 * j) + v) Ls := by
  rw [hv, nI_add]
  exact in_nI (by omega) (by omega)
set_option maxRecDepth 20000 in
theorem lw_loop (hX : Clo (kL_law Ls xs) Q X) (hL : Ls ≤ 2048) (hQ : ∀ M, Q (.inl (some (.int 1))) M) : ∀ (m j T : Nat) (a : Kp) (tx : List Int32) (W : AM) (i : Int32) (x5 x6 : Option Value) (cc ss : Nat), j + m = 512 → i = nI (4 * j) → T ≤ 151 * j → m ≤ cc → 6 * m ≤ ss → LW T a tx W → X 23 (LL i x5 x6) [] W (cc, ss) := by
  intro m
  induction m with
  | zero =>
    intro j T a tx W i x5 x6 cc ss hj hi hT hc hs hW
    refine go hX (fun _ => none) 20 ?_
    refine And.intro (fun _ => ⟨by decide, hQ _⟩) (fun z => absurd ?_ z)
    rw [hi]
    exact (ls4 hL (by omega)).mpr (by omega)
  | succ m ih =>
    intro j T a tx W i x5 x6 cc ss hj hi hT hc hs hW
    have p32 : 4 * j + 4 ≤ Ls → X 32 (LL i x5 x6) [] W (cc, ss) := by
      intro hle
      have v0 : vp_in i Ls := by rw [hi]; exact in_nI (by omega) (by omega)
      have v1 : vp_in (i + 1) Ls := by rw [hi]; exact vI hle hL (c := 1) (by decide) rfl
      have v2 : vp_in (i + 2) Ls := by rw [hi]; exact vI hle hL (c := 2) (by decide) rfl
      have v3 : vp_in (i + 3) Ls := by rw [hi]; exact vI hle hL (c := 3) (by decide) rfl
      obtain ⟨c, rfl⟩ : ∃ c, cc = c + 1 := ⟨cc - 1, by omega⟩
      obtain ⟨s, rfl⟩ : ∃ s, ss = s + 6 := ⟨ss - 6, by omega⟩
      have hT2 : T + 200 < 2 ^ 31 := by omega
      have hnext : ∀ c2 s2, m ≤ c2 → 6 * m ≤ s2 → ∀ T1 a1 tx1 W1, LW T1 a1 tx1 W1 → T1 ≤ T + 151 → ∀ x5 x6, X 1278 (LL i x5 x6) [] W1 (c2, s2) := by
        intro c2 s2 hc2 hs2 T1 a1 tx1 W1 hW1 hT1 y5 y6
        refine go hX (fun pc => if pc = 23 then some 7 else none) 10 ?_
        refine ih (j + 1) T1 a1 tx1 W1 (i + 4) y5 y6 c2 s2 (by omega) ?_ (by omega) hc2 hs2 hW1
        rw [hi, show (4 : Int32) = nI 4 from rfl, nI_add]
        rfl
      have n1 := hnext c s (by omega) (by omega)
      have n2 := hnext (c + 1) (s + 6) (by omega) (by omega)
      have p39 : ∀ x : Int32, X 39 (LL i x5 x6) [.int x] W (c + 1, s + 6) := by
        intro x
        refine hX.1 X (fun _ _ _ _ _ h => h) 39 _ _ _ _ ?_
        show swK (fun t => X t (LL i x5 x6) [] W (c + 1, s + 6)) x 1278 0 [144, 212, 292, 348, 416, 472, 516, 584, 640, 708, 764, 820, 876, 932, 1000, 1013, 1069, 1082, 1138, 1194, 1207, 1220, 1264]
        refine swK_all _ _ (fun t ht => ?_) (n2 T a tx W hW (by omega) x5 x6)
        simp only [List.mem_cons, List.not_mem_nil, or_false] at ht
        rcases ht with rfl | rfl | rfl | rfl | rfl | rfl | rfl | rfl | rfl | rfl | rfl | rfl | rfl | rfl | rfl | rfl | rfl | rfl | rfl | rfl | rfl | rfl | rfl
        · exact lc_plate hX v1 v2 v3 hW hT2 n1
        · exact lc_request hX v1 v2 v3 hW hT2 n1
        · exact lc_cancel hX v1 v2 v3 hW hT2 n1
        · exact lc_set hX v1 v2 v3 hW hT2 n1
        · exact lc_pass hX v1 v2 v3 hW hT2 n1
        · exact lc_finish hX v1 v2 v3 hW hT2 n1
        · exact lc_requestOf hX v1 v2 v3 hW hT2 n1
        · exact lc_requestAt hX v1 v2 v3 hW hT2 n1
        · exact lc_logged hX v1 v2 v3 hW hT2 n1
        · exact lc_arm hX v1 v2 v3 hW hT2 n1
        · exact lc_whole hX v1 v2 v3 hW hT2 n1
        · exact lc_target hX v1 v2 v3 hW hT2 n1
        · exact lc_readIn hX v1 v2 v3 hW hT2 n1
        · exact lc_finishBy hX v1 v2 v3 hW hT2 n1
        · exact lc_bestWay hX hW hT2 n2
        · exact lc_heatIn hX v1 v2 v3 hW hT2 n1
        · exact lc_widest hX hW hT2 n2
        · exact lc_reason hX v1 v2 v3 hW hT2 n1
        · exact lc_type hX v1 v2 v3 hW hT2 n1
        · exact lc_clearCommands hX hW hT2 n2
        · exact lc_runCommands hX hW hT2 n2
        · exact lc_undo hX v1 v2 v3 hW hT2 n1
        · exact lc_digest hX hW hT2 n2
      refine go hX (fun pc => if pc = 39 then some 7 else none) 20 ?_
      exact ⟨v0, p39 _⟩
    refine go hX (fun pc => if pc = 32 then some 7 else none) 20 ?_
    refine And.intro (fun _ => ⟨by decide, hQ _⟩) (fun z => p32 ?_)
    rw [hi] at z
    have := mt (ls4 (k := 4 * j) hL (by omega)).mpr z
    omega
theorem inv_init : Inv 0 initS := ⟨by
  unfold InvU
  refine ⟨by decide, by decide, by decide, by decide, by decide, by decide, by decide, Or.inl rfl, Or.inl rfl, Or.inl rfl⟩, Nat.zero_le _, fun r hr => by simp [initS] at hr, List.Pairwise.nil, 0, 0, rfl, rfl, Nat.le_refl _, Nat.le_refl _, rfl⟩
set_option maxRecDepth 20000 in
theorem lw_body (hX : Clo (kL_law Ls xs) Q X) (hL : Ls ≤ 2048) (hQ : ∀ M, Q (.inl (some (.int 1))) M) : X 0 [some (.float 23), none, none, none, none, none, none] [] [] (601024, 7293034) := by
  have p15 : ∀ Mc g, mcl Mc → CW 0 (initS, []) 0 (fun k => ([] : List Int32).getD k 0) Mc → RS g initS → (∃ sc s S R L tw f fc len B c wn, Mc = p5 sc s S R L tw f fc len B c (wins wn)) → X 15 [some (.float 23), some (.ref 0), none, none, none, none, none] [.ref 83] (Mc ++ [.inr (8, [.ref 84, .ref 85, .ref 86, .int (mf0 0), .int (mf0 1), .ref 87, .int (mf0 2), .int (mf0 3), .int (mf0 4), .int (mf0 5), .int (mf0 6), .int (mf0 7), .ref 88, .long 0]), .inl (0, 133, .inl g), .inl (0, 532, .inl (fun _ => 0)), .inl (0, 133, .inl (fun _ => 0)), .inl (0, 150, .inl (fun _ => 0)), .inl (0, 3, .inl (fun _ => 0))]) (600912, 7285013) := by
    intro Mc g hM hC hR hp
    obtain ⟨sc, s, S, R, L, tw, f, fc, len, B, c, wn, rfl⟩ := hp
    refine go hX (fun pc => if pc = 23 then some 7 else none) 20 ?_
    refine ⟨rfl, ?_⟩
    refine lw_loop hX hL hQ 512 0 0 (initS, []) [] _ 0 none none 600911 7285012 rfl rfl (Nat.le_refl _) (by decide) (by decide) ⟨_, g, fun _ => 0, fun _ => 0, fun _ => 0, fun _ => 0, mf0, 0, fun _ => 0, rfl, hM, hC, ⟨inv_init, fun s hs => nomatch hs⟩, hR, ⟨rfl, by decide, fun i x hx => by simp at hx⟩, ⟨rfl, by decide, fun k hk => absurd hk (Nat.not_lt_zero k)⟩, rfl, rfl⟩
  have p7 : ∀ Mc, mcl Mc → (∀ b, CW 0 (initS, []) 0 b Mc) → X 7 [some (.float 23), none, none, none, none, none, none] [.ref 0] Mc (600923, 7287027) := by
    intro Mc hM hC
    obtain ⟨sc, s, S, R, L, tw, f, fc, len, B, c, wn, e⟩ := cw_p5 Mc (hC (fun k => ([] : List Int32).getD k 0))
    have hC0 := hC (fun k => ([] : List Int32).getD k 0)
    subst e
    refine go hX (fun pc => if pc = 15 then some 7 else none) 20 ?_
    refine Tr.at [83] (m_init fun g hg => ?_) rfl rfl rfl
    exact p15 _ g hM hC0 hg ⟨_, _, _, _, _, _, _, _, _, _, _, _, rfl⟩
  refine go hX (fun pc => if pc = 7 then some 7 else none) 20 ?_
  refine Tr.mono (Tr.wcl (p_init (Q := fun o M => o = .inl none ∧ ∀ b, CW 0 (initS, []) 0 b M) (fun M hC => ⟨rfl, hC⟩))) (fun o M q => ?_)
  obtain ⟨⟨rfl, hC⟩, hM⟩ := q
  exact p7 M hM hC
