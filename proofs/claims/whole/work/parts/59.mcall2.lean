/-! ===== the reference: request, cancel, set, pass ===== -/
variable {g P H X G f : Nat → Int32} {h : Int64} {Q : AQ} {T : Nat}
theorem last_fnd {f : Nat → Int32} {x : Int32} : ∀ {n : Nat}, (∀ i j, i < n → j < n → f i = f j → i = j) → lastN f x n = fndN f x n 0 := by
  intro n hinj
  cases hl : fndN f x n 0 with
  | some k =>
    obtain ⟨-, h1, h2⟩ := fndN_lt hl
    have : ∀ m, k < m → m ≤ n → lastN f x m = some k := by
      intro m
      induction m with
      | zero => intro h; omega
      | succ m ih =>
        intro hk hm
        show (if f m = x then some m else lastN f x m) = some k
        by_cases hmk : m = k
        · rw [hmk, if_pos h2]
        · rw [if_neg (fun z => hmk (hinj m k (by omega) (by omega) (z.trans h2.symm)))]
          exact ih (by omega) (by omega)
    exact this n (by omega) (Nat.le_refl _)
  | none =>
    have hno : ∀ (m i : Nat), fndN f x m i = none → ∀ k, i ≤ k → k < i + m → ¬ f k = x := by
      intro m
      induction m with
      | zero => intro i _ k h1 h2; omega
      | succ m ih =>
        intro i hf k h1 h2
        unfold fndN at hf
        split at hf
        · cases hf
        · rename_i hne
          by_cases hk : k = i
          · rw [hk]; exact hne
          · exact ih (i + 1) hf k (by omega) (by omega)
    have : ∀ m, m ≤ n → lastN f x m = none := by
      intro m
      induction m with
      | zero => intro _; rfl
      | succ m ih =>
        intro hm
        show (if f m = x then some m else lastN f x m) = none
        rw [if_neg (hno n 0 hl m (Nat.zero_le _) (by omega))]
        exact ih (by omega)
    exact this n (Nat.le_refl _)
theorem last_eq {s : Sg} (hR : RS g s) (hI : Inv T s) (x : Int32) : lastN (nuN g) x s.2.1.length = fndL x s.2.1 := by
  have hp := List.pairwise_iff_getElem.mp hI.2.2.2.1
  have hv : ∀ k (hk : k < s.2.1.length), nuN g k = (s.2.1[k]).1 := fun k hk => hR.2.2.2.1 k _ (List.getElem?_eq_getElem hk) 0 (by decide)
  rw [last_fnd]
  · refine fndN_eq fun k hk => ?_
    have hk : k < s.2.1.length := by omega
    rw [hv k hk, List.getD_eq_getElem?_getD, List.getElem?_eq_getElem hk]
    rfl
  · intro i j hi hj hij
    rw [hv i hi, hv j hj] at hij
    rcases Nat.lt_trichotomy i j with h1 | h1 | h1
    · have := hp i j hi hj h1
      rw [hij] at this
      omega
    · exact h1
    · have := hp j i hj hi h1
      rw [hij] at this
      omega
def dropAt (rs : List Rq) (k : Nat) : List Rq := rs.take k ++ rs.drop (k + 1)
def cancelA (sv : Bool) (x : Int32) (a : Kp) : Int32 × Int32 × Kp := match fndL x a.1.2.1 with
  | none => (1, 0, a)
  | some k => (0, a.1.1 6 - (a.1.2.1.getD k d0).2.2.2.2, ((a.1.1, dropAt a.1.2.1 k, a.1.2.2), keepK sv a))
theorem split_at {rs : List Rq} {k : Nat} (hk : k < rs.length) : rs = rs.take k ++ rs.getD k d0 :: rs.drop (k + 1) := by
  rw [List.getD_eq_getElem?_getD, List.getElem?_eq_getElem hk]
  show rs = rs.take k ++ rs[k] :: rs.drop (k + 1)
  rw [← List.drop_eq_getElem_cons hk, List.take_append_drop]
set_option maxRecDepth 20000 in
theorem m_cancel {x : Int32} {a : Kp} (hR : RS g a.1) (hI : Inv T a.1) (hK : KR P f a.2) (hQ : Kq Q X G f h (cancelA (decide (f 1 = 0)) x a)) : Tr tX10_cancel 0 0 [.ref 0, .int x] (mdW g P H X G f h) Q := by
  refine Tr.run sX10_cancel (by decide +kernel) rfl 60 fun Y => ?_
  refine m_placeOf hR.2.1 hI.2.1 ?_
  rw [last_eq hR hI]
  unfold cancelA at hQ
  cases hf : fndL x a.1.2.1 with
  | none =>
    rw [hf] at hQ
    refine And.intro (fun z => absurd rfl z) (fun _ => ?_)
    refine m_throws ?_
    refine And.intro (fun z => absurd z (by decide)) (fun _ => ?_)
    exact hQ g P H (upd f 3 1) hR (hK.mv rfl) (fun k _ h3 _ => upd_o h3) upd_i
  | some k =>
    rw [hf] at hQ
    have hk := fndL_lt hf
    have hm := hI.2.1
    refine And.intro (fun _ => ?_) (fun z => absurd z (ix_ne (by omega)))
    refine m_throws ?_
    refine And.intro (fun _ => ?_) (fun z => absurd rfl z)
    refine m_savesK (f := upd f 3 0) (ps := a.2) (hK.mv rfl) hR hI.rb (fun P1 f1 hK1 hf1 => ⟨in_lit (by decide), ?_⟩)
    refine m_of (g := g) (v := (a.1.2.1.getD k d0).2.2.2.2) (show ix (some k) = nI k from rfl) (show (4 : Int32) = nI 4 from rfl) (by omega) (hR.row hk).2.2.2.2 ?_
    refine m_takes (p := k) (n := a.1.2.1.length) (show ix (some k) = nI k from rfl) hk hR.2.1 hm (fun g1 p1 p2 p3 => ?_)
    have es := split_at hk
    have hlt : (a.1.2.1.take k).length = k := by rw [List.length_take]; omega
    have hR2 : RS g (a.1.1, a.1.2.1.take k ++ a.1.2.1.getD k d0 :: a.1.2.1.drop (k + 1), a.1.2.2) := by rw [← es]; exact hR
    have hR3 := RS.take hR2 (by rw [← es]; exact hm) (by rw [← es]; exact p1) (by rw [← es, hlt]; exact p2) (by rw [← es, hlt]; exact p3) hI.rb.2
    have hg6 : g 6 = a.1.1 6 := hR.1 6 (by decide)
    have := hQ g1 P1 H f1 hR3 hK1 (fun k h0 h3 h5 => (hf1 k h0).trans (upd_o h3)) ((hf1 3 (by decide)).trans upd_i)
    rw [← hg6] at this
    exact this
def passA (sv : Bool) (t : Int32) (a : Kp) : Int32 × Int32 × Kp :=
  if inI t 1 99 = true then (if a.1.1 6 + t ≤ 9999 then (0, (passS t.toNatClampNeg a.1).1 8 - a.1.1 8, (passS t.toNatClampNeg a.1, keepK sv a)) else (2, 0, a)) else (1, 0, a)
theorem inI_iff {v lo hi : Int32} : inI v lo hi = true ↔ lo.toInt ≤ v.toInt ∧ v.toInt ≤ hi.toInt := by
  unfold inI
  rw [Bool.and_eq_true, decide_eq_true_iff, decide_eq_true_iff, Int32.le_iff_toInt_le, Int32.le_iff_toInt_le]
theorem of_clamp {v : Int32} (h : 0 ≤ v.toInt) : v = nI v.toNatClampNeg := by
  rw [← Int32.toInt_inj]
  have h2 := Int32.toInt_lt v
  have e : v.toNatClampNeg = v.toInt.toNat := rfl
  rw [nI_toInt (by omega)]
  omega
set_option maxRecDepth 20000 in
theorem m_pass {t : Int32} {a : Kp} (hR : RS g a.1) (hI : Inv T a.1) (hK : KR P f a.2) (hQ : Kq Q X G f h (passA (decide (f 1 = 0)) t a)) : Tr tX10_pass 0 0 [.ref 0, .int t] (mdW g P H X G f h) Q := by
  refine Tr.of sX10_pass (by decide +kernel) (Nat.le_of_ble_eq_true rfl) fun Y hX => ?_
  unfold passA at hQ
  refine go hX (fun pc => if pc = 57 then some 4 else none) 60 ?_
  refine m_in ?_
  cases h1 : inI t 1 99 with
  | false =>
    rw [h1, if_neg (by decide)] at hQ
    refine And.intro (fun z => absurd rfl z) (fun _ => ?_)
    refine m_throws ?_
    refine And.intro (fun z => absurd z (by decide)) (fun _ => ?_)
    exact hQ g P H (upd f 3 1) hR (hK.mv rfl) (fun k _ h3 _ => upd_o h3) upd_i
  | true =>
    rw [h1, if_pos rfl] at hQ
    have hg6 : g 6 = a.1.1 6 := hR.1 6 (by decide)
    refine And.intro (fun _ => ⟨in_lit (by decide), And.intro (fun h2 => ?_) (fun h2 => ?_)⟩) (fun z => absurd z (by decide))
    · have h2' : a.1.1 6 + t ≤ 9999 := by rw [← hg6]; exact h2
      rw [if_pos h2'] at hQ
      have ht := inI_iff.mp h1
      have e1 : ((1 : Int32).toInt) = 1 := by decide
      have e99 : ((99 : Int32).toInt) = 99 := by decide
      have hc := of_clamp (v := t) (by omega)
      have hcn : t.toNatClampNeg = t.toInt.toNat := rfl
      refine m_throws ?_
      refine And.intro (fun _ => ?_) (fun z => absurd rfl z)
      refine m_savesK (f := upd f 3 0) (ps := a.2) (hK.mv rfl) hR hI.rb (fun P1 f1 hK1 hf1 => ⟨in_lit (by decide), ?_⟩)
      generalize hn : t.toNatClampNeg = n at *
      have key : ∀ (d i : Nat) (jv : Int32) (s : Sg) (g1 : Nat → Int32) (x : Int32), i + d = n → jv = nI i → Inv T s → RS g1 s → passS d s = passS n a.1 → Y 57 [some (.ref 0), some (.int t), some (.int (g 8)), some (.int jv)] [] (mdW g1 P1 H X G (upd f1 5 x) h) (0, 0) := by
        intro d
        induction d with
        | zero =>
          intro i jv s g1 x hi hj hIs hRs he
          refine go hX (fun _ => none) 40 ?_
          refine And.intro (fun _ => ⟨in_lit (by decide), ?_⟩) (fun h => absurd (by rw [hc, hj, show i = n by omega]; exact Int32.le_refl _) h)
          rw [← he] at hQ
          have e8 : g1 8 = s.1 8 := hRs.1 8 (by decide)
          have e8' : g 8 = a.1.1 8 := hR.1 8 (by decide)
          have := hQ g1 P1 H (upd f1 5 x) hRs (hK1.mv rfl) (fun k h0 h3 h5 => (upd_o h5).trans ((hf1 k h0).trans (upd_o h3))) ((hf1 3 (by decide)).trans upd_i)
          rw [← e8', show (passS 0 s).1 8 = s.1 8 from rfl, ← e8] at this
          exact this
        | succ d ih =>
          intro i jv s g1 x hi hj hIs hRs he
          refine go hX (fun pc => if pc = 57 then some 4 else none) 40 ?_
          refine And.intro (fun h => absurd h (by rw [hc, hj]; exact nI_ge (by omega) (by omega))) (fun _ => ?_)
          refine m_ticks (f := upd f1 5 x) hRs hIs (fun g2 hR2 => ?_)
          rw [upd5_5]
          exact ih (i + 1) (jv + 1) (tickS s) g2 _ (by omega) (by rw [hj]; exact nI_1 i) (inv_tick hIs) hR2 he
      have := key n 0 0 a.1 g (f1 5) (by omega) rfl hI hR rfl
      exact this
    · have h2' : ¬ a.1.1 6 + t ≤ 9999 := by rw [← hg6]; exact Int32.not_le.mpr (Int32.not_le.mp h2)
      rw [if_neg h2'] at hQ
      refine m_throws ?_
      refine And.intro (fun z => absurd z (by decide)) (fun _ => ?_)
      exact hQ g P H (upd f 3 2) hR (hK.mv rfl) (fun k _ h3 _ => upd_o h3) upd_i
