/-! ===== the reference: digest ===== -/
variable {g P H X G f : Nat → Int32} {h : Int64} {Q : AQ} {T : Nat} {s : Sg}
def mixN (F : Nat → Int32) : Nat → Int64 → Int64
  | 0, h => h
  | k + 1, h => mixH (mixN F k h) (F k)
def mixQ (u : Nat → Int32) (F : Nat → Rq) : Nat → Int64 → Int64
  | 0, h => h
  | k + 1, h => mixN (toldV u (F k)) 6 (mixH (mixQ u F k h) (F k).1)
def mixL (F : Nat → Rq) : Nat → Int64 → Int64
  | 0, h => h
  | k + 1, h => mixN (rf (F k)) 5 (mixL F k h)
def mixW (s : Sg) : Nat → Int64 → Int64
  | 0, h => h
  | k + 1, h => mixN (valV s (nI k)) 3 (mixH (mixW s k h) (numS s.2.1 (tgtS s.1 s.2.1 (nI k))))
def rqF (rs : List Rq) (k : Nat) : Rq := rs.getD k d0
def dg1 (s : Sg) (np ty : Int32) : Int64 := mixN (wholeV s ty) 18 (mixH 43906 np)
def dg2 (s : Sg) (np ty : Int32) : Int64 := mixN (armV s.1) 6 (dg1 s np ty)
def dg3 (s : Sg) (np ty : Int32) : Int64 := mixQ s.1 (rqF s.2.1) s.2.1.length (dg2 s np ty)
def dg4 (s : Sg) (np ty : Int32) : Int64 := mixL (rqF s.2.2) s.2.2.length (dg3 s np ty)
def dg5 (s : Sg) (np ty : Int32) : Int64 := mixW s 4 (dg4 s np ty)
def dgA (s : Sg) (np ty : Int32) : Int64 := mixH (mixH (mixH (dg5 s np ty) (nI (bestM s 4))) (heatV s 10)) (spreadV (fun k => (rqF s.2.1 k).2.1) s.2.1.length)
theorem mixN_s {F : Nat → Int32} {k : Nat} {h : Int64} : mixN F (k + 1) h = mixH (mixN F k h) (F k) := rfl
theorem mixN_0 {F : Nat → Int32} {h : Int64} : mixN F 0 h = h := rfl
theorem mix5 {F : Nat → Int32} {h : Int64} : mixN F 5 h = mixH (mixH (mixH (mixH (mixH h (F 0)) (F 1)) (F 2)) (F 3)) (F 4) := by
  rw [show (5 : Nat) = 0 + 1 + 1 + 1 + 1 + 1 from rfl, mixN_s, mixN_s, mixN_s, mixN_s, mixN_s, mixN_0]
theorem mixQ_s {u : Nat → Int32} {F : Nat → Rq} {k : Nat} {h : Int64} : mixQ u F (k + 1) h = mixN (toldV u (F k)) 6 (mixH (mixQ u F k h) (F k).1) := rfl
theorem mixQ_0 {u : Nat → Int32} {F : Nat → Rq} {h : Int64} : mixQ u F 0 h = h := rfl
theorem mixL_s {F : Nat → Rq} {k : Nat} {h : Int64} : mixL F (k + 1) h = mixN (rf (F k)) 5 (mixL F k h) := rfl
theorem mixL_0 {F : Nat → Rq} {h : Int64} : mixL F 0 h = h := rfl
theorem mixW_s {k : Nat} {h : Int64} : mixW s (k + 1) h = mixN (valV s (nI k)) 3 (mixH (mixW s k h) (numS s.2.1 (tgtS s.1 s.2.1 (nI k)))) := rfl
theorem mixW_0 {h : Int64} : mixW s 0 h = h := rfl
theorem dg1_d {np ty : Int32} : dg1 s np ty = mixN (wholeV s ty) 18 (mixH 43906 np) := rfl
theorem dg2_d {np ty : Int32} : dg2 s np ty = mixN (armV s.1) 6 (dg1 s np ty) := rfl
theorem dg3_d {np ty : Int32} : dg3 s np ty = mixQ s.1 (rqF s.2.1) s.2.1.length (dg2 s np ty) := rfl
theorem dg4_d {np ty : Int32} : dg4 s np ty = mixL (rqF s.2.2) s.2.2.length (dg3 s np ty) := rfl
theorem dg5_d {np ty : Int32} : dg5 s np ty = mixW s 4 (dg4 s np ty) := rfl
theorem dgA_d {np ty : Int32} : dgA s np ty = mixH (mixH (mixH (dg5 s np ty) (nI (bestM s 4))) (heatV s 10)) (spreadV (fun k => (rqF s.2.1 k).2.1) s.2.1.length) := rfl
theorem mm_cg {a b : Nat → Int32} : ∀ k, (∀ i, i ≤ k → a i = b i) → maxN a k = maxN b k ∧ minN a k = minN b k
  | 0, h => ⟨h 0 (Nat.le_refl _), h 0 (Nat.le_refl _)⟩
  | k + 1, h => by
    obtain ⟨h1, h2⟩ := mm_cg k (fun i hi => h i (by omega))
    unfold maxN minN
    rw [h1, h2, h (k + 1) (Nat.le_refl _)]
    exact ⟨rfl, rfl⟩
theorem spread_cg {a b : Nat → Int32} {n : Nat} (h : ∀ i, i < n → a i = b i) : spreadV a n = spreadV b n := by
  unfold spreadV
  by_cases hn : n = 0
  · rw [if_pos hn, if_pos hn]
  · rw [if_neg hn, if_neg hn]
    obtain ⟨h1, h2⟩ := mm_cg (n - 1) (fun i hi => h i (by omega))
    rw [h1, h2]
theorem mix_lin {F : Nat → Int32} {lg : List Rq} (hF : ∀ (b : Nat) (e : Rq), lg[b]? = some e → ∀ j, j < 5 → F (5 * b + j) = rf e j) : ∀ (m : Nat) (h : Int64), m ≤ lg.length → mixN F (5 * m) h = mixL (rqF lg) m h
  | 0, _, _ => rfl
  | m + 1, h, hm => by
    have ih := mix_lin hF m h (by omega)
    have hl : lg[m]? = some lg[m] := List.getElem?_eq_getElem (by omega)
    have he : rqF lg m = lg[m] := by unfold rqF; rw [List.getD_eq_getElem?_getD, hl]; rfl
    rw [show 5 * (m + 1) = 5 * m + 1 + 1 + 1 + 1 + 1 by omega]
    rw [mixN_s, mixN_s, mixN_s, mixN_s, mixN_s, ih, mixL_s, he, mix5]
    have e0 := hF m _ hl 0 (by decide)
    have e1 := hF m _ hl 1 (by decide)
    have e2 := hF m _ hl 2 (by decide)
    have e3 := hF m _ hl 3 (by decide)
    have e4 := hF m _ hl 4 (by decide)
    rw [Nat.add_zero] at e0
    rw [e0, e1, show 5 * m + 1 + 1 = 5 * m + 2 from rfl, e2, show 5 * m + 2 + 1 = 5 * m + 3 from rfl, e3, show 5 * m + 3 + 1 = 5 * m + 4 from rfl, e4]
set_option maxRecDepth 20000 in
theorem m_digest (hR : RS g s) (hI : Inv T s) (hQ : ∀ g1 H1 f1 : Nat → Int32, RS g1 s → (∀ k, ¬ k = 3 → ¬ k = 5 → f1 k = f k) → f1 3 = 0 → Q (.inl (some (.long (dgA s (f 0) (f 2))))) (mdW g1 P H1 X G f1 (dgA s (f 0) (f 2)))) : Tr tX10_digest 0 0 [.ref 0] (mdW g P H X G f h) Q := by
  have hm := hI.2.1
  have hlg := hI.rb.2
  refine Tr.of sX10_digest (by decide +kernel) (Nat.le_of_ble_eq_true rfl) fun Y hX => ?_
  have s202 : ∀ (g1 H1 f1 : Nat → Int32) (h1 : Int64) (x y : Option Value), h1 = dg5 s (f 0) (f 2) → RS g1 s → (∀ k, ¬ k = 3 → ¬ k = 5 → f1 k = f k) → f1 3 = 0 → Y 202 [some (.ref 0), x, y] [] (mdW g1 P H1 X G f1 h1) (0, 0) := by
    intro g1 H1 f1 h1 x y hh q1 q2 q3
    subst hh
    have p228 : ∀ (g4 H4 f4 : Nat → Int32) (x y : Option Value), RS g4 s → (∀ k, ¬ k = 3 → ¬ k = 5 → f4 k = f k) → f4 3 = 0 → Y 220 [some (.ref 0), x, y] [] (mdW g4 P H4 X G f4 (mixH (mixH (dg5 s (f 0) (f 2)) (nI (bestM s 4))) (heatV s 10))) (0, 0) := by
      intro g4 H4 f4 x y r1 r2 r3
      refine go hX (fun _ => none) 40 ?_
      refine m_widestNow r1 hI ?_
      refine m_say ?_
      have e : spreadV (trN g4) s.2.1.length = spreadV (fun k => (rqF s.2.1 k).2.1) s.2.1.length := spread_cg fun i hi => (r1.row hi).1
      rw [e]
      exact hQ g4 H4 f4 r1 r2 r3
    have p210 : ∀ (g4 H4 f4 : Nat → Int32) (x y : Option Value), RS g4 s → (∀ k, ¬ k = 3 → ¬ k = 5 → f4 k = f k) → f4 3 = 0 → Y 210 [some (.ref 0), x, y] [] (mdW g4 P H4 X G f4 (mixH (dg5 s (f 0) (f 2)) (nI (bestM s 4)))) (0, 0) := by
      intro g4 H4 f4 x y r1 r2 r3
      refine go hX (fun pc => if pc = 220 then some 3 else none) 40 ?_
      refine m_heat (n := 10) r1 hI rfl (by decide) (fun g5 H5 f5 t1 t2 => ?_)
      refine m_say ?_
      exact p228 g5 H5 f5 x y t1 (fun k k3 k5 => (t2 k k5).trans (r2 k k3 k5)) ((t2 3 (by decide)).trans r3)
    refine go hX (fun pc => if pc = 210 then some 3 else none) 40 ?_
    refine m_best q1 hI (fun g5 H5 f5 t1 t2 => ?_)
    refine m_say ?_
    exact p210 g5 H5 f5 x y t1 (fun k k3 k5 => (t2 k k5).trans (q2 k k3 k5)) ((t2 3 (by decide)).trans q3)
  -- the ways
  have s155 : ∀ (d i : Nat) (iv : Int32) (g1 H1 f1 : Nat → Int32) (h1 : Int64) (y : Option Value), i + d = 4 → iv = nI i → h1 = mixW s i (dg4 s (f 0) (f 2)) → RS g1 s → (∀ k, ¬ k = 3 → ¬ k = 5 → f1 k = f k) → f1 3 = 0 → Y 155 [some (.ref 0), some (.int iv), y] [] (mdW g1 P H1 X G f1 h1) (0, 0) := by
    intro d
    induction d with
    | zero =>
      intro i iv g1 H1 f1 h1 y hi hiv hh q1 q2 q3
      refine go hX (fun pc => if pc = 202 then some 3 else none) 40 ?_
      refine And.intro (fun _ => ?_) (fun z => absurd (show (4 : Int32) ≤ iv by rw [hiv, show i = 4 by omega]; exact Int32.le_refl _) z)
      refine s202 g1 H1 f1 h1 _ y ?_ q1 q2 q3
      rw [hh, show i = 4 by omega, dg5_d]
    | succ d ih =>
      intro i iv g1 H1 f1 h1 y hi hiv hh q1 q2 q3
      have hw : 0 ≤ iv.toInt ∧ iv.toInt ≤ 3 := by rw [hiv]; exact nI_03 (by omega)
      have inner : ∀ (e j : Nat) (jv : Int32) (g1 H1 f1 : Nat → Int32) (h1 : Int64), j + e = 3 → jv = nI j → h1 = mixN (valV s (nI i)) j (mixH (mixW s i (dg4 s (f 0) (f 2))) (numS s.2.1 (tgtS s.1 s.2.1 (nI i)))) → RS g1 s → (∀ k, ¬ k = 3 → ¬ k = 5 → f1 k = f k) → f1 3 = 0 → Y 175 [some (.ref 0), some (.int iv), some (.int jv)] [] (mdW g1 P H1 X G f1 h1) (0, 0) := by
        intro e
        induction e with
        | zero =>
          intro j jv g1 H1 f1 h1 hj hjv hh q1 q2 q3
          refine go hX (fun pc => if pc = 155 then some 3 else none) 40 ?_
          refine And.intro (fun _ => ?_) (fun z => absurd (show (3 : Int32) ≤ jv by rw [hjv, show j = 3 by omega]; exact Int32.le_refl _) z)
          refine ih (i + 1) (iv + 1) g1 H1 f1 h1 _ (by omega) (by rw [hiv]; exact nI_1 i) ?_ q1 q2 q3
          rw [hh, show j = 3 by omega, mixW_s]
        | succ e ihe =>
          intro j jv g1 H1 f1 h1 hj hjv hh q1 q2 q3
          refine go hX (fun pc => if pc = 175 then some 3 else none) 40 ?_
          refine And.intro (fun z => absurd z (by rw [hjv]; exact nI_ge (b := 3) (by omega) (by decide))) (fun _ => ?_)
          refine m_valueBy (j := j) q1 hI hw hjv (by omega) (fun g5 H5 f5 t1 t2 => ?_)
          refine m_say ?_
          refine ihe (j + 1) (jv + 1) g5 H5 f5 _ (by omega) (by rw [hjv]; exact nI_1 j) ?_ t1 (fun k k3 k5 => (t2 k k5).trans (q2 k k3 k5)) ((t2 3 (by decide)).trans q3)
          rw [hh, hiv]
          exact mixN_s.symm
      refine go hX (fun pc => if pc = 175 then some 3 else none) 40 ?_
      refine And.intro (fun z => absurd z (by rw [hiv]; exact nI_ge (b := 4) (by omega) (by decide))) (fun _ => ?_)
      refine m_targetBy (way := iv) q1.2.1 hm ?_
      have hlt : ∀ k, tgtM g1 s.2.1.length iv = some k → k < s.2.1.length := fun k hk => tgtM_lt hk
      rw [tgt_eq q1 hI hw] at hlt ⊢
      refine m_numberOf q1 hm hlt ?_
      refine m_say ?_
      refine inner 3 0 0 g1 H1 f1 _ (by decide) rfl ?_ q1 q2 q3
      rw [hh, hiv, mixN_0]
  -- the log
  have s121 : ∀ (d i : Nat) (iv : Int32) (g1 H1 f1 : Nat → Int32) (h1 : Int64) (y : Option Value), i + d = 5 * s.2.2.length → iv = nI i → h1 = mixN (fun k => g1 (83 + k)) i (dg3 s (f 0) (f 2)) → RS g1 s → (∀ k, ¬ k = 3 → ¬ k = 5 → f1 k = f k) → f1 3 = 0 → Y 121 [some (.ref 0), some (.int iv), y] [] (mdW g1 P H1 X G f1 h1) (0, 0) := by
    intro d
    induction d with
    | zero =>
      intro i iv g1 H1 f1 h1 y hi hiv hh q1 q2 q3
      have e5 : (5 : Int32) * g1 22 = nI (5 * s.2.2.length) := by rw [q1.2.2.1, show (5 : Int32) = nI 5 from rfl, mul_nI]
      refine go hX (fun pc => if pc = 155 then some 3 else none) 40 ?_
      refine ⟨in_lit (by decide), And.intro (fun _ => ?_) (fun z => absurd (show (5 : Int32) * g1 22 ≤ iv by rw [hiv, e5, show i = 5 * s.2.2.length by omega]; exact Int32.le_refl _) z)⟩
      refine s155 4 0 0 g1 H1 f1 h1 y (by decide) rfl ?_ q1 q2 q3
      rw [hh, show i = 5 * s.2.2.length by omega, mixW_0, dg4_d]
      exact mix_lin (F := fun k => g1 (83 + k)) (fun b e he j hj => by show g1 (83 + (5 * b + j)) = _; rw [show 83 + (5 * b + j) = 83 + 5 * b + j by omega]; exact q1.2.2.2.2 b e he j hj) _ _ (Nat.le_refl _)
    | succ d ih =>
      intro i iv g1 H1 f1 h1 y hi hiv hh q1 q2 q3
      have e5 : (5 : Int32) * g1 22 = nI (5 * s.2.2.length) := by rw [q1.2.2.1, show (5 : Int32) = nI 5 from rfl, mul_nI]
      have e83 : (83 : Int32) + iv = nI (83 + i) := by rw [hiv, show (83 : Int32) = nI 83 from rfl, nI_add]
      have v0 : vp_in ((83 : Int32) + iv) 133 := by rw [e83]; exact in_nI (by omega) (by decide)
      have v1 : ((83 : Int32) + iv).toNatClampNeg = 83 + i := by rw [e83]; exact nI_clamp (by omega)
      refine go hX (fun pc => if pc = 121 then some 3 else none) 40 ?_
      refine ⟨in_lit (by decide), And.intro (fun z => absurd (show (5 : Int32) * g1 22 ≤ iv from z) (by rw [hiv, e5]; exact nI_ge (by omega) (by omega))) (fun _ => ⟨v0, ?_⟩)⟩
      refine m_say ?_
      refine ih (i + 1) (iv + 1) g1 H1 f1 _ y (by omega) (by rw [hiv]; exact nI_1 i) ?_ q1 q2 q3
      rw [v1, hh]
      exact (mixN_s (F := fun k => g1 (83 + k))).symm
  -- the requests
  have s68 : ∀ (d i : Nat) (iv : Int32) (g1 H1 f1 : Nat → Int32) (h1 : Int64) (y : Option Value), i + d = s.2.1.length → iv = nI i → h1 = mixQ s.1 (rqF s.2.1) i (dg2 s (f 0) (f 2)) → RS g1 s → (∀ k, ¬ k = 3 → ¬ k = 5 → f1 k = f k) → f1 3 = 0 → Y 68 [some (.ref 0), some (.int iv), y] [] (mdW g1 P H1 X G f1 h1) (0, 0) := by
    intro d
    induction d with
    | zero =>
      intro i iv g1 H1 f1 h1 y hi hiv hh q1 q2 q3
      refine go hX (fun pc => if pc = 121 then some 3 else none) 40 ?_
      refine ⟨in_lit (by decide), And.intro (fun _ => ?_) (fun z => absurd (show g1 21 ≤ iv by rw [q1.2.1, hiv, show i = s.2.1.length by omega]; exact Int32.le_refl _) z)⟩
      refine s121 (5 * s.2.2.length) 0 0 g1 H1 f1 h1 y (by omega) rfl ?_ q1 q2 q3
      rw [hh, show i = s.2.1.length by omega, mixN_0, dg3_d]
    | succ d ih =>
      intro i iv g1 H1 f1 h1 y hi hiv hh q1 q2 q3
      have inner : ∀ (e j : Nat) (jv : Int32) (h1 : Int64), j + e = 6 → jv = nI j → h1 = mixN (toldV s.1 (rqF s.2.1 i)) j (mixH (mixQ s.1 (rqF s.2.1) i (dg2 s (f 0) (f 2))) (rqF s.2.1 i).1) → Y 91 [some (.ref 0), some (.int iv), some (.int jv)] [] (mdW g1 P H1 X G f1 h1) (0, 0) := by
        intro e
        induction e with
        | zero =>
          intro j jv h1 hj hjv hh
          refine go hX (fun pc => if pc = 68 then some 3 else none) 40 ?_
          refine And.intro (fun _ => ?_) (fun z => absurd (show (6 : Int32) ≤ jv by rw [hjv, show j = 6 by omega]; exact Int32.le_refl _) z)
          refine ih (i + 1) (iv + 1) g1 H1 f1 h1 _ (by omega) (by rw [hiv]; exact nI_1 i) ?_ q1 q2 q3
          rw [hh, show j = 6 by omega, mixQ_s]
        | succ e ihe =>
          intro j jv h1 hj hjv hh
          refine go hX (fun pc => if pc = 91 then some 3 else none) 40 ?_
          refine And.intro (fun z => absurd z (by rw [hjv]; exact nI_ge (b := 6) (by omega) (by decide))) (fun _ => ?_)
          refine m_told (k := i) (j := j) q1 hm hiv (by omega) hjv (by omega) ?_
          refine m_say ?_
          refine ihe (j + 1) (jv + 1) _ (by omega) (by rw [hjv]; exact nI_1 j) ?_
          rw [hh]
          exact mixN_s.symm
      refine go hX (fun pc => if pc = 91 then some 3 else none) 40 ?_
      refine ⟨in_lit (by decide), And.intro (fun z => absurd (show g1 21 ≤ iv from z) (by rw [q1.2.1, hiv]; exact nI_ge (by omega) (by omega))) (fun _ => ?_)⟩
      refine m_of (v := (rqF s.2.1 i).1) hiv (show (0 : Int32) = nI 0 from rfl) (by omega) (q1.row (show i < s.2.1.length by omega)).2.2.1 ?_
      refine m_say ?_
      refine inner 6 0 0 _ (by decide) rfl ?_
      rw [hh, mixN_0]
  have s45 : ∀ (d i : Nat) (iv : Int32) (f1 : Nat → Int32) (h1 : Int64), i + d = 6 → iv = nI i → h1 = mixN (armV s.1) i (dg1 s (f 0) (f 2)) → (∀ k, ¬ k = 3 → ¬ k = 5 → f1 k = f k) → f1 3 = 0 → Y 45 [some (.ref 0), some (.int iv), none] [] (mdW g P H X G f1 h1) (0, 0) := by
    intro d
    induction d with
    | zero =>
      intro i iv f1 h1 hi hiv hh q2 q3
      refine go hX (fun pc => if pc = 68 then some 3 else none) 40 ?_
      refine And.intro (fun _ => ?_) (fun z => absurd (show (6 : Int32) ≤ iv by rw [hiv, show i = 6 by omega]; exact Int32.le_refl _) z)
      refine s68 s.2.1.length 0 0 g H f1 h1 none (by omega) rfl ?_ hR q2 q3
      rw [hh, show i = 6 by omega, mixQ_0, dg2_d]
    | succ d ih =>
      intro i iv f1 h1 hi hiv hh q2 q3
      refine go hX (fun pc => if pc = 45 then some 3 else none) 40 ?_
      refine And.intro (fun z => absurd z (by rw [hiv]; exact nI_ge (b := 6) (by omega) (by decide))) (fun _ => ?_)
      refine m_armOf (j := i) hR hI hiv (by omega) ?_
      refine m_say ?_
      refine ih (i + 1) (iv + 1) f1 _ (by omega) (by rw [hiv]; exact nI_1 i) ?_ q2 q3
      rw [hh]
      exact mixN_s.symm
  have s22 : ∀ (d i : Nat) (iv : Int32) (f1 : Nat → Int32) (h1 : Int64), i + d = 18 → iv = nI i → h1 = mixN (wholeV s (f 2)) i (mixH 43906 (f 0)) → (∀ k, ¬ k = 3 → ¬ k = 5 → f1 k = f k) → f1 3 = 0 → Y 22 [some (.ref 0), some (.int iv), none] [] (mdW g P H X G f1 h1) (0, 0) := by
    intro d
    induction d with
    | zero =>
      intro i iv f1 h1 hi hiv hh q2 q3
      refine go hX (fun pc => if pc = 45 then some 3 else none) 40 ?_
      refine And.intro (fun _ => ?_) (fun z => absurd (show (18 : Int32) ≤ iv by rw [hiv, show i = 18 by omega]; exact Int32.le_refl _) z)
      refine s45 6 0 0 f1 h1 (by omega) rfl ?_ q2 q3
      rw [hh, show i = 18 by omega, mixN_0, dg1_d]
    | succ d ih =>
      intro i iv f1 h1 hi hiv hh q2 q3
      refine go hX (fun pc => if pc = 22 then some 3 else none) 40 ?_
      refine And.intro (fun z => absurd z (by rw [hiv]; exact nI_ge (b := 18) (by omega) (by decide))) (fun _ => ?_)
      refine m_wholeOf (j := i) hR hiv (by omega) ?_
      rw [q2 2 (by decide) (by decide)]
      refine m_say ?_
      refine ih (i + 1) (iv + 1) f1 _ (by omega) (by rw [hiv]; exact nI_1 i) ?_ q2 q3
      rw [hh]
      exact mixN_s.symm
  refine go hX (fun pc => if pc = 22 then some 3 else none) 40 ?_
  refine ⟨trivial, ?_⟩
  refine m_say (f := upd f 3 0) (h := 43906) ?_
  exact s22 18 0 0 (upd f 3 0) (mixH 43906 (f 0)) (by omega) rfl mixN_0.symm (fun k k3 _ => upd_o k3) rfl
