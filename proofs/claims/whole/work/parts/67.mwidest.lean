/-! ===== the reference: widest ===== -/
variable {g P H X G f : Nat → Int32} {h : Int64} {Q : AQ} {T : Nat} {s : Sg}
def spreadV (t : Nat → Int32) (n : Nat) : Int32 := if n = 0 then 0 else maxN t (n - 1) - minN t (n - 1)
theorem maxN_at {t : Nat → Int32} : ∀ k, (∃ i, i ≤ k ∧ maxN t k = t i) ∧ ∀ i, i ≤ k → (t i).toInt ≤ (maxN t k).toInt
  | 0 => ⟨⟨0, Nat.le_refl _, rfl⟩, fun i hi => by rw [show i = 0 by omega]; exact Int.le_refl _⟩
  | k + 1 => by
    obtain ⟨⟨i, hi, he⟩, hall⟩ := maxN_at (t := t) k
    by_cases hc : maxN t k < t (k + 1)
    · have e : maxN t (k + 1) = t (k + 1) := if_pos hc
      have hc2 := Int32.lt_iff_toInt_lt.mp hc
      refine ⟨⟨k + 1, Nat.le_refl _, e⟩, fun j hj => ?_⟩
      rw [e]
      by_cases hjk : j = k + 1
      · rw [hjk]; exact Int.le_refl _
      · have := hall j (by omega)
        omega
    · have e : maxN t (k + 1) = maxN t k := if_neg hc
      have hc2 : ¬ (maxN t k).toInt < (t (k + 1)).toInt := fun z => hc (Int32.lt_iff_toInt_lt.mpr z)
      refine ⟨⟨i, by omega, e.trans he⟩, fun j hj => ?_⟩
      rw [e]
      by_cases hjk : j = k + 1
      · rw [hjk]; omega
      · exact hall j (by omega)
theorem minN_at {t : Nat → Int32} : ∀ k, (∃ i, i ≤ k ∧ minN t k = t i) ∧ ∀ i, i ≤ k → (minN t k).toInt ≤ (t i).toInt
  | 0 => ⟨⟨0, Nat.le_refl _, rfl⟩, fun i hi => by rw [show i = 0 by omega]; exact Int.le_refl _⟩
  | k + 1 => by
    obtain ⟨⟨i, hi, he⟩, hall⟩ := minN_at (t := t) k
    by_cases hc : t (k + 1) < minN t k
    · have e : minN t (k + 1) = t (k + 1) := if_pos hc
      have hc2 := Int32.lt_iff_toInt_lt.mp hc
      refine ⟨⟨k + 1, Nat.le_refl _, e⟩, fun j hj => ?_⟩
      rw [e]
      by_cases hjk : j = k + 1
      · rw [hjk]; exact Int.le_refl _
      · have := hall j (by omega)
        omega
    · have e : minN t (k + 1) = minN t k := if_neg hc
      have hc2 : ¬ (t (k + 1)).toInt < (minN t k).toInt := fun z => hc (Int32.lt_iff_toInt_lt.mpr z)
      refine ⟨⟨i, by omega, e.trans he⟩, fun j hj => ?_⟩
      rw [e]
      by_cases hjk : j = k + 1
      · rw [hjk]; omega
      · exact hall j (by omega)
/-- acc is the largest difference of the pairs of which p says so -/
def Wid (t : Nat → Int32) (p : Nat → Nat → Prop) (acc : Int32) : Prop := (∀ i j, p i j → (sizeI (t i - t j)).toInt ≤ acc.toInt) ∧ (acc = 0 ∨ ∃ i j, p i j ∧ sizeI (t i - t j) = acc) ∧ 0 ≤ acc.toInt
theorem size_in {a b : Int32} (ha : 0 ≤ a.toInt ∧ a.toInt < 24) (hb : 0 ≤ b.toInt ∧ b.toInt < 24) : (b.toInt ≤ a.toInt → (sizeI (a - b)).toInt = a.toInt - b.toInt) ∧ (a.toInt ≤ b.toInt → (sizeI (a - b)).toInt = b.toInt - a.toInt) := by
  have e : (a - b).toInt = a.toInt - b.toInt := sub_in (by omega) (by omega)
  unfold sizeI
  by_cases hc : 0 ≤ a - b
  · rw [if_pos hc, e]
    have := le0.mp hc
    exact ⟨fun _ => rfl, fun _ => by omega⟩
  · rw [if_neg hc, neg_in (by omega), e]
    have : ¬ 0 ≤ (a - b).toInt := fun z => hc (le0.mpr z)
    exact ⟨fun _ => by omega, fun _ => by omega⟩
theorem wid_end {t : Nat → Int32} {n : Nat} {acc : Int32} (ht : ∀ k, k < n → 0 ≤ (t k).toInt ∧ (t k).toInt < 24) (h : Wid t (fun i j => i < n ∧ j < i) acc) : acc = spreadV t n := by
  obtain ⟨h1, h2, h3⟩ := h
  unfold spreadV
  by_cases hn : n = 0
  · rw [if_pos hn]
    rcases h2 with z | ⟨i, j, ⟨a, b⟩, _⟩
    · exact z
    · omega
  · rw [if_neg hn]
    obtain ⟨⟨a, ha, ea⟩, hall⟩ := maxN_at (t := t) (n - 1)
    obtain ⟨⟨b, hb, eb⟩, hbll⟩ := minN_at (t := t) (n - 1)
    have ta := ht a (by omega)
    have tb := ht b (by omega)
    have hab := hall b hb
    rw [ea] at hall hab ⊢
    rw [eb] at hbll ⊢
    have ed : (t a - t b).toInt = (t a).toInt - (t b).toInt := sub_in (by omega) (by omega)
    apply Int32.toInt_inj.mp
    rw [ed]
    apply Int.le_antisymm
    · rcases h2 with z | ⟨i, j, ⟨p, q⟩, e⟩
      · rw [z]
        have e0 : ((0 : Int32).toInt) = 0 := by decide
        omega
      · rw [← e]
        have ti := ht i (by omega)
        have tj := ht j (by omega)
        have s := size_in ti tj
        have i1 := hall i (by omega)
        have i2 := hall j (by omega)
        have i3 := hbll i (by omega)
        have i4 := hbll j (by omega)
        rcases Int.le_total (t j).toInt (t i).toInt with z | z
        · rw [s.1 z]; omega
        · rw [s.2 z]; omega
    · rcases Nat.lt_trichotomy a b with z | z | z
      · have := h1 b a ⟨by omega, z⟩
        rw [(size_in tb ta).2 hab] at this
        exact this
      · subst z
        omega
      · have := h1 a b ⟨by omega, z⟩
        rw [(size_in ta tb).1 hab] at this
        exact this
set_option maxRecDepth 20000 in
theorem m_widestNow (hR : RS g s) (hI : Inv T s) (hQ : Q (.inl (some (.int (spreadV (trN g) s.2.1.length)))) (mdW g P H X G f h)) : Tr tX10_widestNow 0 0 [.ref 0] (mdW g P H X G f h) Q := by
  refine Tr.of sX10_widestNow (by decide +kernel) (Nat.le_of_ble_eq_true rfl) fun Y hX => ?_
  have hm := hI.2.1
  have g21 := hR.2.1
  generalize hn : s.2.1.length = n at *
  have ht : ∀ k, k < n → 0 ≤ (trN g k).toInt ∧ (trN g k).toInt < 24 := fun k hk => by
    rw [(hR.row (show k < s.2.1.length by omega)).1]
    exact (hI.row (show k < s.2.1.length by omega)).2.1
  have inner : ∀ (k : Nat) (kv : Int32), k < n → kv = nI k → (∀ acc x y, Wid (trN g) (fun i j => i < k + 1 ∧ j < i) acc → Y 4 [some (.ref 0), some (.int acc), some (.int (kv + 1)), x, y] [] (mdW g P H X G f h) (0, 0)) →
      ∀ (d j : Nat) (jv acc : Int32) (y : Option Value), j + d = k → jv = nI j → Wid (trN g) (fun a b => (a < k ∧ b < a) ∨ (a = k ∧ b < j)) acc → Y 17 [some (.ref 0), some (.int acc), some (.int kv), some (.int jv), y] [] (mdW g P H X G f h) (0, 0) := by
    intro k kv hk hkv hnext d
    induction d with
    | zero =>
      intro j jv acc y hj hjv hw
      refine go hX (fun pc => if pc = 4 then some 5 else none) 40 ?_
      refine And.intro (fun _ => ?_) (fun z => absurd (by rw [hkv, hjv, show j = k by omega]; exact Int32.le_refl _) z)
      refine hnext acc _ _ ⟨fun a b hab => hw.1 a b ?_, hw.2.1.imp id (fun ⟨a, b, hab, e⟩ => ⟨a, b, ?_, e⟩), hw.2.2⟩
      · rcases Nat.lt_or_ge a k with z | z
        · exact Or.inl ⟨z, hab.2⟩
        · exact Or.inr ⟨by omega, by omega⟩
      · rcases hab with z | z
        · exact ⟨by omega, z.2⟩
        · exact ⟨by omega, by omega⟩
    | succ d ih =>
      intro j jv acc y hj hjv hw
      have szn := size_in (ht k hk) (ht j (by omega))
      have sz0 : 0 ≤ (sizeI (trN g k - trN g j)).toInt := by
        rcases Int.le_total (trN g j).toInt (trN g k).toInt with z | z
        · rw [szn.1 z]; omega
        · rw [szn.2 z]; omega
      refine go hX (fun pc => if pc = 17 then some 5 else none) 60 ?_
      refine And.intro (fun z => absurd z (by rw [hkv, hjv]; exact nI_ge (by omega) (by omega))) (fun _ => ?_)
      refine m_of (v := trN g k) hkv (show (1 : Int32) = nI 1 from rfl) (by omega) rfl ?_
      refine m_of (v := trN g j) hjv (show (1 : Int32) = nI 1 from rfl) (by omega) rfl ?_
      refine m_size ?_
      refine And.intro (fun z => ?_) (fun z => ?_)
      · have z2 := Int32.le_iff_toInt_le.mp z
        refine ih (j + 1) (jv + 1) acc _ (by omega) (by rw [hjv]; exact nI_1 j) ⟨fun a b hab => ?_, hw.2.1.imp id (fun ⟨a, b, hab, e⟩ => ⟨a, b, hab.imp id (fun q => ⟨q.1, by omega⟩), e⟩), hw.2.2⟩
        rcases hab with q | q
        · exact hw.1 a b (Or.inl q)
        · by_cases hb : b = j
          · rw [hb, q.1]; exact z2
          · exact hw.1 a b (Or.inr ⟨q.1, by omega⟩)
      · have z2 := Int32.lt_iff_toInt_lt.mp (Int32.not_le.mp z)
        refine ih (j + 1) (jv + 1) (sizeI (trN g k - trN g j)) _ (by omega) (by rw [hjv]; exact nI_1 j) ⟨fun a b hab => ?_, Or.inr ⟨k, j, Or.inr ⟨rfl, by omega⟩, rfl⟩, sz0⟩
        rcases hab with q | q
        · have := hw.1 a b (Or.inl q); omega
        · by_cases hb : b = j
          · rw [hb, q.1]; exact Int.le_refl _
          · have := hw.1 a b (Or.inr ⟨q.1, by omega⟩); omega
  have outer : ∀ (d k : Nat) (kv acc : Int32) (x y : Option Value), k + d = n → kv = nI k → Wid (trN g) (fun i j => i < k ∧ j < i) acc → Y 4 [some (.ref 0), some (.int acc), some (.int kv), x, y] [] (mdW g P H X G f h) (0, 0) := by
    intro d
    induction d with
    | zero =>
      intro k kv acc x y hk hkv hw
      rw [show k = n by omega] at hw
      have := wid_end ht hw
      rw [← this] at hQ
      refine go hX (fun _ => none) 40 ?_
      refine ⟨in_lit (by decide), And.intro (fun _ => hQ) (fun z => ?_)⟩
      exact absurd (show g 21 ≤ kv by rw [g21, hkv, show k = n by omega]; exact Int32.le_refl _) z
    | succ d ih =>
      intro k kv acc x y hk hkv hw
      refine go hX (fun pc => if pc = 17 then some 5 else none) 40 ?_
      refine ⟨in_lit (by decide), And.intro (fun z => absurd z (show ¬ g 21 ≤ kv by rw [g21, hkv]; exact nI_ge (by omega) (by omega))) (fun _ => ?_)⟩
      refine inner k kv (by omega) hkv (fun acc x y hw2 => ih (k + 1) (kv + 1) acc x y (by omega) (by rw [hkv]; exact nI_1 k) hw2) k 0 0 acc y (by omega) rfl ⟨fun a b hab => ?_, hw.2.1.imp id (fun ⟨a, b, hab, e⟩ => ⟨a, b, Or.inl hab, e⟩), hw.2.2⟩
      rcases hab with q | q
      · exact hw.1 a b q
      · omega
  refine go hX (fun pc => if pc = 4 then some 5 else none) 40 ?_
  exact outer n 0 0 0 none none (by omega) rfl ⟨fun i j hij => by omega, Or.inl rfl, Int.le_refl _⟩
