/-! ===== p26's law: a tick, whole ===== -/
variable {Q : AQ} {T t c d : Nat} {s : Sg} {G Qa La A : Nat → Int32} {X : WK} {num to was fa by_ : Int32} {x6 x9 x10 : Option Value}
theorem upd_self (f : Nat → Int32) (i : Nat) : upd f i (f i) = f := by
  funext k
  unfold upd
  split
  · rename_i h; rw [h]
  · rfl
set_option maxRecDepth 20000 in
theorem tk_457 (hX : Clo kL_tick Q X) (hI : Inv T s) (hL : LI t s) (ht : t ≤ 20000) (hG : GU G (bgnS s).1 (bgnS s).2.1.length (bgnS s).2.2.length) (hq : QOk Qa (bgnS s).2.1) (hl : QOk La (bgnS s).2.2) (hc : ∀ G1 Q1 L1, TI G1 Q1 L1 (tickS s) → Q (.inl (some (.int 0))) (g3 G1 Q1 L1)) : X 457 (tkL (-1) to x6 was fa x9 x10) [] (g3 G Qa La) (0, 0) := by
  have hB := inv_bgn hI
  obtain ⟨h6, ⟨hh, h18, hb⟩, -⟩ := hL
  obtain ⟨h1, b18, bb⟩ := bgn_18 hI h18 (by omega)
  have b6 : (bgnS s).1 6 = nI t := (bgn_k s (by decide)).trans h6
  have ht2 : tickS s = endS (bgnS s) := rfl
  rw [ht2] at hc
  generalize bgnS s = b at hB hG hq hl hc b18 b6
  obtain ⟨v, rs, lg⟩ := b
  have h5 : 0 ≤ (v 5).toInt ∧ (v 5).toInt ≤ 100 := hB.1.2.2.2.2.2.1
  have h4 : 5 ≤ (v 4).toInt ∧ (v 4).toInt ≤ 200 := hB.1.2.2.2.2.1
  have e4 := of_clamp (v := v 4) (by omega)
  have n4 : (v 4).toNatClampNeg = (v 4).toInt.toNat := rfl
  have hlen : rs.length ≤ 12 := hB.2.1
  dsimp only at hG hq hl b18 b6
  have p518 : ∀ G1 Q1 x9, GU G1 (upd v 10 (v 10 + nI (rs.countP (gl v)))) ([] ++ rs.filter (fun r => !gl v r)).length lg.length → QOk Q1 ([] ++ rs.filter (fun r => !gl v r)) → X 518 (tkL (-1) to x6 was fa x9 x10) [] (g3 G1 Q1 La) (0, 0) := by
    intro G1 Q1 x9 hG1 hq1
    refine tk_518 hX (k := h1) (l := (v 4).toNatClampNeg) ((upd_o (by decide)).trans b18) (by omega) ((upd_o (by decide)).trans e4) (by omega) hG1 (fun G2 hG2 => hc G2 Q1 La ?_)
    have he : endS (v, rs, lg) = (lastU (upd v 10 (v 10 + nI (rs.countP (gl v)))), rs.filter (fun r => !gl v r), lg) := by
      unfold endS
      by_cases h0 : v 5 = 0
      · have hg : ∀ r, gl v r = false := fun r => by
          unfold gl
          rw [h0, decide_eq_false (by decide)]
          rfl
        have e1 : rs.countP (gl v) = 0 := List.countP_eq_zero.mpr (fun r _ => by rw [hg]; decide)
        have e2 : rs.filter (fun r => !gl v r) = rs := List.filter_eq_self.mpr (fun r _ => by rw [hg]; rfl)
        rw [if_pos h0, e1, e2, nI_0, Int32.add_zero, upd_self]
      · have hp : 0 < v 5 := by
          rw [Int32.lt_iff_toInt_lt, i32_0]
          have : ¬ (v 5).toInt = 0 := fun z => h0 (by rw [← Int32.toInt_inj, z]; rfl)
          omega
        have hg : gl v = goneS v := by
          funext r
          unfold gl
          rw [decide_eq_true hp]
          rfl
        rw [if_neg h0, hg]
        rfl
    rw [he]
    exact ⟨hG2, hq1, hl⟩
  refine go hX (fun pc => if pc = 460 then some 11 else none) 10 ?_
  refine tk_460 hX h5 ?_ rs [] (v 10) G Qa (by rw [List.length_nil]; omega) (fun r hr => (hB.2.2.1 r hr).2.2) (by rw [List.length_nil, Nat.zero_add, upd_self]; exact hG) hq p518
  rw [b6, nI_toInt (by omega)]
  omega
set_option maxRecDepth 20000 in
theorem tk_240 (hX : Clo kL_tick Q X) (hI : Inv T s) (hL : LI t s) (ht : t ≤ 20000) {w : Nat → Int32} (rd : Bool) (hrd : rd = true ↔ was + w 17 = 0) (hb : bgnS s = if rd = true then readS (w, s.2) else (w, s.2)) (hw1 : ¬ w 1 = 0) (hG : GU G w s.2.1.length s.2.2.length) (hq : QOk Qa s.2.1) (hl : QOk La s.2.2) (hc : ∀ G1 Q1 L1, TI G1 Q1 L1 (tickS s) → Q (.inl (some (.int 0))) (g3 G1 Q1 L1)) : X 240 (tkL (-1) to x6 was fa x9 x10) [] (g3 G Qa La) (0, 0) := by
  have hlg : s.2.2.length ≤ 10 := by
    obtain ⟨w9, t9, -, -, -, -, h9⟩ := hI.2.2.2.2
    omega
  have hlen := hI.2.1
  have he : bgnS s = (((s.2.1.filter (hv w rd)).foldl (rdS w) (w, s.2.2)).1, s.2.1.filter (fun r => !hv w rd r), ((s.2.1.filter (hv w rd)).foldl (rdS w) (w, s.2.2)).2) := by
    rw [hb]
    cases rd with
    | true =>
      have hh : hv w true = hitS w := by
        funext r
        unfold hv
        rw [Bool.true_and]
      rw [if_pos rfl, hh]
      rfl
    | false =>
      have hh : ∀ r, hv w false r = false := fun r => rfl
      have e1 : s.2.1.filter (hv w false) = [] := List.filter_eq_nil_iff.mpr (fun r _ => by rw [hh]; decide)
      have e2 : s.2.1.filter (fun r => !hv w false r) = s.2.1 := List.filter_eq_self.mpr (fun r _ => by rw [hh]; rfl)
      rw [if_neg (by decide), e1, e2]
      rfl
  refine go hX (fun pc => if pc = 243 then some 11 else none) 10 ?_
  refine tk_243 hX hrd hw1 s.2.1 [] w s.2.2 G Qa La x10 (by rw [List.length_nil]; omega) (fun r hr => (hI.2.2.1 r hr).1.1) hlg (fun _ _ _ => rfl) (by rw [List.length_nil, Nat.zero_add]; exact hG) hq hl (fun G1 Q1 L1 x9 x10 a b c => ?_)
  exact tk_457 hX hI hL ht (by rw [he]; exact a) (by rw [he]; exact b) (by rw [he]; exact c) hc
def WA (A : Nat → Int32) (a b e f : Int32) : Nat → Int32 := upd (upd (upd (upd (upd A 12 (A 12 + a)) 18 (A 18 + b)) 17 e) 16 (A 16 + f)) 11 (A 11 + 1)
set_option maxRecDepth 20000 in
theorem tk_136 (hX : Clo kL_tick Q X) (hG : GU G A c d) (hc : ∀ G1, GU G1 (WA A (if was = 0 then 1 else 0) (if was = 0 then 2 else 1) (if 0 < by_ then 1 else 2) (if 0 < by_ then 1 else -1)) c d → X 240 (tkL num to (some (.int by_)) was fa x9 x10) [] (g3 G1 Qa La) (0, 0)) : X 136 (tkL num to (some (.int by_)) was fa x9 x10) [] (g3 G Qa La) (0, 0) := by
  have p201 : ∀ (a b e f : Int32) (G : Nat → Int32), a = (if was = 0 then 1 else 0) → b = (if was = 0 then 2 else 1) → e = (if 0 < by_ then 1 else 2) → f = (if 0 < by_ then 1 else -1) → GU G (upd (upd (upd (upd A 12 (A 12 + a)) 18 (A 18 + b)) 17 e) 16 (A 16 + f)) c d → X 201 (tkL num to (some (.int by_)) was fa x9 x10) [] (g3 G Qa La) (0, 0) := by
    intro a b e f G ha hb he hf hG
    refine go hX (fun pc => if pc = 240 then some 11 else none) 30 ?_
    refine ⟨in_lit (by decide), in_lit (by decide), hc _ ?_⟩
    rw [← ha, ← hb, ← he, ← hf]
    refine hG.st (i := 11) (y := A 11 + 1) (by decide) ?_
    show G 11 + 1 = A 11 + 1
    rw [hG.1 11 (by decide), upd_o (by decide), upd_o (by decide), upd_o (by decide), upd_o (by decide)]
  have p199 : ∀ (a b e f : Int32) (G : Nat → Int32), a = (if was = 0 then 1 else 0) → b = (if was = 0 then 2 else 1) → e = (if 0 < by_ then 1 else 2) → f = (if 0 < by_ then 1 else -1) → GU G (upd (upd (upd A 12 (A 12 + a)) 18 (A 18 + b)) 17 e) c d → X 199 (tkL num to (some (.int by_)) was fa x9 x10) [.int f, .int (G 16), .int 16, .ref 0] (g3 G Qa La) (0, 0) := by
    intro a b e f G ha hb he hf hG
    refine go hX (fun pc => if pc = 201 then some 11 else none) 30 ?_
    refine ⟨in_lit (by decide), p201 a b e f _ ha hb he hf (hG.st (i := 16) (by decide) ?_)⟩
    rw [hG.1 16 (by decide), upd_o (by decide), upd_o (by decide), upd_o (by decide)]
  have p184 : ∀ (a b e : Int32) (G : Nat → Int32), a = (if was = 0 then 1 else 0) → b = (if was = 0 then 2 else 1) → e = (if 0 < by_ then 1 else 2) → GU G (upd (upd (upd A 12 (A 12 + a)) 18 (A 18 + b)) 17 e) c d → X 184 (tkL num to (some (.int by_)) was fa x9 x10) [] (g3 G Qa La) (0, 0) := by
    intro a b e G ha hb he hG
    refine go hX (fun pc => if pc = 199 then some 11 else none) 30 ?_
    refine ⟨in_lit (by decide), And.intro (fun h => ?_) (fun h => ?_)⟩
    · exact p199 a b e (-1) G ha hb he (if_neg (Int32.not_lt.mpr h)).symm hG
    · exact p199 a b e 1 G ha hb he (if_pos (Int32.not_le.mp h)).symm hG
  have p183 : ∀ (a b e : Int32) (G : Nat → Int32), a = (if was = 0 then 1 else 0) → b = (if was = 0 then 2 else 1) → e = (if 0 < by_ then 1 else 2) → GU G (upd (upd A 12 (A 12 + a)) 18 (A 18 + b)) c d → X 183 (tkL num to (some (.int by_)) was fa x9 x10) [.int e, .int 17, .ref 0] (g3 G Qa La) (0, 0) := by
    intro a b e G ha hb he hG
    refine go hX (fun pc => if pc = 184 then some 11 else none) 30 ?_
    exact ⟨in_lit (by decide), p184 a b e _ ha hb he (hG.st (i := 17) (by decide) rfl)⟩
  have p170 : ∀ (a b : Int32) (G : Nat → Int32), a = (if was = 0 then 1 else 0) → b = (if was = 0 then 2 else 1) → GU G (upd (upd A 12 (A 12 + a)) 18 (A 18 + b)) c d → X 170 (tkL num to (some (.int by_)) was fa x9 x10) [] (g3 G Qa La) (0, 0) := by
    intro a b G ha hb hG
    refine go hX (fun pc => if pc = 183 then some 11 else none) 30 ?_
    refine And.intro (fun h => ?_) (fun h => ?_)
    · exact p183 a b 2 G ha hb (if_neg (Int32.not_lt.mpr h)).symm hG
    · exact p183 a b 1 G ha hb (if_pos (Int32.not_le.mp h)).symm hG
  have p168 : ∀ (a b : Int32) (G : Nat → Int32), a = (if was = 0 then 1 else 0) → b = (if was = 0 then 2 else 1) → GU G (upd A 12 (A 12 + a)) c d → X 168 (tkL num to (some (.int by_)) was fa x9 x10) [.int b, .int (G 18), .int 18, .ref 0] (g3 G Qa La) (0, 0) := by
    intro a b G ha hb hG
    refine go hX (fun pc => if pc = 170 then some 11 else none) 30 ?_
    refine ⟨in_lit (by decide), p170 a b _ ha hb (hG.st (i := 18) (by decide) ?_)⟩
    rw [hG.1 18 (by decide), upd_o (by decide)]
  have p153 : ∀ (a : Int32) (G : Nat → Int32), a = (if was = 0 then 1 else 0) → GU G (upd A 12 (A 12 + a)) c d → X 153 (tkL num to (some (.int by_)) was fa x9 x10) [] (g3 G Qa La) (0, 0) := by
    intro a G ha hG
    refine go hX (fun pc => if pc = 168 then some 11 else none) 30 ?_
    refine ⟨in_lit (by decide), And.intro (fun h => ?_) (fun h => ?_)⟩
    · exact p168 a 1 G ha (if_neg h).symm hG
    · exact p168 a 2 G ha (if_pos h).symm hG
  have p151 : ∀ (a : Int32), a = (if was = 0 then 1 else 0) → X 151 (tkL num to (some (.int by_)) was fa x9 x10) [.int a, .int (G 12), .int 12, .ref 0] (g3 G Qa La) (0, 0) := by
    intro a ha
    refine go hX (fun pc => if pc = 153 then some 11 else none) 30 ?_
    refine ⟨in_lit (by decide), p153 a _ ha (hG.st (i := 12) (by decide) ?_)⟩
    rw [hG.1 12 (by decide)]
  refine go hX (fun pc => if pc = 151 then some 11 else none) 30 ?_
  refine ⟨in_lit (by decide), And.intro (fun h => ?_) (fun h => ?_)⟩
  · exact p151 0 (if_neg h).symm
  · exact p151 1 (if_pos h).symm
def Fa (u : Nat → Int32) (was by_ : Int32) : Prop := (was = 1 → 0 < by_) ∧ (was = 2 → by_ < 0) ∧ (¬ was = 1 → ¬ was = 2 → ¬ by_ = 0 ∧ u 19 = 0)
theorem pw5 {A : Nat → Int32} {a b e f g : Int32} {k : Nat} : upd (upd (upd (upd (upd A 12 a) 18 b) 17 e) 16 f) 11 g k = upd (upd (upd (upd (upd A 17 e) 16 f) 18 b) 12 a) 11 g k := by
  unfold upd
  by_cases k11 : k = 11
  · rw [if_pos k11, if_pos k11]
  · rw [if_neg k11, if_neg k11]
    by_cases k12 : k = 12
    · subst k12; rfl
    · by_cases k16 : k = 16
      · subst k16; rfl
      · by_cases k17 : k = 17
        · subst k17; rfl
        · rw [if_neg k16, if_neg k17, if_neg k12, if_neg k12, if_neg k16, if_neg k17]
theorem pw3 {A : Nat → Int32} {b e f g : Int32} (he : e = A 17) {k : Nat} : upd (upd (upd (upd (upd A 12 (A 12 + 0)) 18 b) 17 e) 16 f) 11 g k = upd (upd (upd A 16 f) 18 b) 11 g k := by
  rw [Int32.add_zero, upd_self]
  unfold upd
  by_cases k11 : k = 11
  · rw [if_pos k11, if_pos k11]
  · rw [if_neg k11, if_neg k11]
    by_cases k16 : k = 16
    · subst k16; rfl
    · by_cases k17 : k = 17
      · subst k17; exact he
      · rw [if_neg k16, if_neg k17, if_neg k16]
set_option maxRecDepth 20000 in
theorem tk_129 (hX : Clo kL_tick Q X) (hI : Inv T s) (hL : LI t s) (ht : t ≤ 20000) {o : Option Nat} {sw : Int32} (ha : aimS s.1 s.2.1 = (o, sw)) (hby : by_ = goalS s.1 s.2.1 o - s.1 16) (hgo : ∀ k, o = some k → k < s.2.1.length) (hwas : was = s.1 17) (hfa : (fa = 1 ∧ Fa s.1 was by_) ∨ (fa = 0 ∧ ¬ Fa s.1 was by_)) (hG : GU G (aimU s.1 sw) s.2.1.length s.2.2.length) (hq : QOk Qa s.2.1) (hl : QOk La s.2.2) (hc : ∀ G1 Q1 L1, TI G1 Q1 L1 (tickS s) → Q (.inl (some (.int 0))) (g3 G1 Q1 L1)) : X 129 [some (.ref 0), some (.ref 1), some (.ref 2), some (.int (-1)), some (.int to), some (.int 0), some (.int by_), some (.int was), none, none, none] [.int fa] (g3 G Qa La) (0, 0) := by
  have hg := goal_in hI hgo
  have h16 : 0 ≤ (s.1 16).toInt ∧ (s.1 16).toInt < 24 := hI.1.2.2.2.2.2.2.1
  have h17 : s.1 17 = 0 ∨ s.1 17 = 1 ∨ s.1 17 = 2 := hI.1.2.2.2.2.2.2.2.1
  have h1 : ¬ s.1 1 = 0 := toI_ne0 (by have : 3 ≤ (s.1 1).toInt := hI.1.2.1.1; omega)
  obtain ⟨goal, hgoal⟩ : ∃ g, goalS s.1 s.2.1 o = g := ⟨_, rfl⟩
  rw [hgoal] at hby hg
  have ebI : by_.toInt = goal.toInt - (s.1 16).toInt := by rw [hby]; exact sub_in (by omega) (by omega)
  have bpos : 0 < by_ ↔ s.1 16 < goal := by rw [Int32.lt_iff_toInt_lt, Int32.lt_iff_toInt_lt, i32_0]; omega
  have bneg : by_ < 0 ↔ goal < s.1 16 := by rw [Int32.lt_iff_toInt_lt, Int32.lt_iff_toInt_lt, i32_0]; omega
  have bzer : by_ = 0 ↔ goal = s.1 16 := by rw [← Int32.toInt_inj, ← Int32.toInt_inj, i32_0]; omega
  obtain ⟨A, hA⟩ : ∃ A, aimU s.1 sw = A := ⟨_, rfl⟩
  have a1 : A 1 = s.1 1 := by rw [← hA]; exact (upd_o (by decide)).trans (upd_o (by decide))
  have a16 : A 16 = s.1 16 := by rw [← hA]; exact (upd_o (by decide)).trans (upd_o (by decide))
  have a17 : A 17 = s.1 17 := by rw [← hA]; exact (upd_o (by decide)).trans (upd_o (by decide))
  have eb : bgnS s = (if s.1 17 = 0 then (if goal = s.1 16 then readS (A, s.2) else if s.1 19 = 0 then (startU A goal, s.2) else readS (A, s.2)) else (moveU A goal, s.2)) := by
    show bgnA s (aimS s.1 s.2.1) = _
    rw [ha, ← hgoal, ← hA]
    rfl
  rw [hA] at hG
  have a1n : ¬ A 1 = 0 := by rw [a1]; exact h1
  have p131 : X 131 (tkL (-1) to (some (.int by_)) was fa none none) [] (g3 G Qa La) (0, 0) := by
    refine go hX (fun pc => if pc = 136 then some 11 else if pc = 240 then some 11 else none) 60 ?_
    refine And.intro (fun h => And.intro (fun h2 => ?_) (fun h2 => ?_)) (fun h => ?_)
    · -- nothing moves
      have hnF : ¬ Fa s.1 was by_ := by
        rcases hfa with q | q
        · exact absurd h (by rw [q.1]; decide)
        · exact q.2
      have w0 : s.1 17 = 0 := by
        rcases h17 with q | q | q
        · exact q
        · exact absurd h2 (by rw [hwas, q]; decide)
        · exact absurd h2 (by rw [hwas, q]; decide)
      have eb2 : bgnS s = readS (A, s.2) := by
        rw [eb, if_pos w0]
        split
        · rfl
        · rename_i hne
          split
          · rename_i h19
            exact absurd ⟨fun z => by rw [hwas, w0] at z; exact absurd z (by decide), fun z => by rw [hwas, w0] at z; exact absurd z (by decide), fun _ _ => ⟨fun z => hne (bzer.mp z), h19⟩⟩ hnF
          · rfl
      exact tk_240 (X := X) hX hI hL ht true ⟨fun _ => by rw [hwas, a17, w0]; decide, fun _ => rfl⟩ (by rw [eb2, if_pos rfl]) a1n hG hq hl hc
    · -- it brakes
      have hnF : ¬ Fa s.1 was by_ := by
        rcases hfa with q | q
        · exact absurd h (by rw [q.1]; decide)
        · exact q.2
      have w0 : ¬ s.1 17 = 0 := fun z => h2 (by rw [hwas, z]; decide)
      have w12 : s.1 17 = 1 ∨ s.1 17 = 2 := h17.resolve_left w0
      have em : moveU A goal = upd (upd (upd A 17 0) 18 (A 18 + A 3)) 13 (A 13 + 1) := by
        refine if_neg (fun z => hnF ?_)
        rw [a17, a16] at z
        rw [hwas]
        rcases w12 with q | q
        · rw [if_pos q] at z
          exact ⟨fun _ => bpos.mpr z, fun z2 => by rw [q] at z2; exact absurd z2 (by decide), fun z2 => absurd q z2⟩
        · rw [if_neg (by rw [q]; decide)] at z
          exact ⟨fun z2 => by rw [q] at z2; exact absurd z2 (by decide), fun _ => bneg.mpr z, fun _ z2 => absurd q z2⟩
      have hG2 : ∀ x y, x = A 18 + A 3 → y = A 13 + 1 → GU (upd (upd (upd G 17 0) 18 x) 13 y) (moveU A goal) s.2.1.length s.2.2.length := fun x y hx hy => by
        rw [em]
        exact ((hG.st (i := 17) (by decide) rfl).st (i := 18) (by decide) hx).st (i := 13) (by decide) hy
      refine ⟨in_lit (by decide), in_lit (by decide), in_lit (by decide), in_lit (by decide), in_lit (by decide), in_lit (by decide), ?_⟩
      refine tk_240 (X := X) (w := moveU A goal) hX hI hL ht false ⟨fun z => (nomatch z), fun z => ?_⟩ (by rw [eb, if_neg w0, if_neg (by decide)]) ?_ (hG2 _ _ ?_ ?_) hq hl hc
      · rw [em, show upd (upd (upd A 17 0) 18 (A 18 + A 3)) 13 (A 13 + 1) 17 = 0 from rfl, Int32.add_zero, hwas] at z
        exact absurd z w0
      · rw [em]
        exact a1n
      · show G 18 + G 3 = _
        rw [hG.1 18 (by decide), hG.1 3 (by decide)]
      · show G 13 + 1 = _
        rw [hG.1 13 (by decide)]
    · -- it steps
      have hF : Fa s.1 was by_ := by
        rcases hfa with q | q
        · exact q.2
        · exact absurd q.1 h
      refine tk_136 (X := X) hX hG (fun G1 hG1 => ?_)
      unfold WA at hG1
      by_cases w0 : s.1 17 = 0
      · have wz : was = 0 := hwas.trans w0
        rw [if_pos wz, if_pos wz] at hG1
        obtain ⟨f1, f2⟩ := hF.2.2 (by rw [wz]; decide) (by rw [wz]; decide)
        have es : bgnS s = (startU A goal, s.2) := by rw [eb, if_pos w0, if_neg (fun z => f1 (bzer.mpr z)), if_pos f2]
        have hG2 : GU G1 (startU A goal) s.2.1.length s.2.2.length := hG1.cg (fun k hk => by
          rw [pw5]
          unfold startU
          rw [a16]
          by_cases hp : 0 < by_
          · rw [if_pos hp, if_pos hp, if_pos (bpos.mp hp), if_pos (bpos.mp hp)]
          · rw [if_neg hp, if_neg hp, if_neg (fun z => hp (bpos.mpr z)), if_neg (fun z => hp (bpos.mpr z))])
        refine tk_240 (X := X) (w := startU A goal) hX hI hL ht false ⟨fun z => (nomatch z), fun z => ?_⟩ (by rw [es, if_neg (by decide)]) (show ¬ A 1 = 0 from a1n) hG2 hq hl hc
        have z2 : was + (if A 16 < goal then (1 : Int32) else 2) = 0 := z
        rw [wz] at z2
        split at z2 <;> exact absurd z2 (by decide)
      · have wz : ¬ was = 0 := by rw [hwas]; exact w0
        rw [if_neg wz, if_neg wz] at hG1
        have w12 : s.1 17 = 1 ∨ s.1 17 = 2 := h17.resolve_left w0
        have hd : (if s.1 17 = 1 then s.1 16 < goal else goal < s.1 16) ∧ (if 0 < by_ then (1 : Int32) else 2) = A 17 ∧ (if 0 < by_ then (1 : Int32) else -1) = (if A 17 = 1 then 1 else -1) := by
          rw [a17]
          rcases w12 with q | q
          · have f1 := hF.1 (hwas.trans q)
            rw [if_pos q, if_pos f1, if_pos f1, if_pos q]
            exact ⟨bpos.mp f1, q.symm, rfl⟩
          · have f1 := hF.2.1 (hwas.trans q)
            have f2 : ¬ 0 < by_ := fun z => by
              have y1 := Int32.lt_iff_toInt_lt.mp z
              have y2 := Int32.lt_iff_toInt_lt.mp f1
              omega
            rw [if_neg f2, if_neg f2, if_neg (by rw [q]; decide), if_neg (by rw [q]; decide)]
            exact ⟨bneg.mp f1, q.symm, rfl⟩
        obtain ⟨d1, d2, d3⟩ := hd
        have em : moveU A goal = upd (upd (upd A 16 (A 16 + (if A 17 = 1 then 1 else -1))) 18 (A 18 + 1)) 11 (A 11 + 1) := if_pos (by rw [a17, a16]; exact d1)
        have hG2 : GU G1 (moveU A goal) s.2.1.length s.2.2.length := hG1.cg (fun k hk => by
          rw [em, d2, d3]
          exact pw3 rfl)
        refine tk_240 (X := X) (w := moveU A goal) hX hI hL ht false ⟨fun z => (nomatch z), fun z => ?_⟩ (by rw [eb, if_neg w0, if_neg (by decide)]) ?_ hG2 hq hl hc
        · rw [em, show upd (upd (upd A 16 (A 16 + (if A 17 = 1 then 1 else -1))) 18 (A 18 + 1)) 11 (A 11 + 1) 17 = A 17 from rfl, a17, hwas] at z
          rcases w12 with q | q <;> rw [q] at z <;> exact absurd z (by decide)
        · rw [em]
          exact a1n
  refine go hX (fun pc => if pc = 131 then some 11 else none) 10 ?_
  exact p131
set_option maxRecDepth 20000 in
theorem l_tick (hI : Inv T s) (hL : LI t s) (ht : t ≤ 20000) (hT : TI G Qa La s) (hc : ∀ G1 Q1 L1, TI G1 Q1 L1 (tickS s) → Q (.inl (some (.int 0))) (g3 G1 Q1 L1)) : Tr tL_tick 0 0 [.ref 0, .ref 1, .ref 2, .int (-1)] (g3 G Qa La) Q := by
  obtain ⟨hG, hq, hl⟩ := hT
  have hG0 : GU G s.1 s.2.1.length s.2.2.length := hG
  have hlen := hI.2.1
  have e2 : G 2 = s.1 2 := hG.1 2 (by decide)
  have e16 : G 16 = s.1 16 := hG.1 16 (by decide)
  have e20 : G 20 = s.1 20 := hG.1 20 (by decide)
  refine Tr.of sL_tick (by decide +kernel) (Nat.le_of_ble_eq_true rfl) fun X hX => ?_
  have p74 : ∀ (o : Option Nat) (sw to by_ : Int32) (G2 : Nat → Int32), aimS s.1 s.2.1 = (o, sw) → (∀ k, o = some k → k < s.2.1.length) → by_ = goalS s.1 s.2.1 o - s.1 16 → GU G2 (aimU s.1 sw) s.2.1.length s.2.2.length → X 74 [some (.ref 0), some (.ref 1), some (.ref 2), some (.int (-1)), some (.int to), some (.int 0), some (.int by_), some (.int (s.1 17)), none, none, none] [] (g3 G2 Qa La) (0, 0) := by
    intro o sw to by_ G2 ha hgo hby hG2
    have a19 : G2 19 = s.1 19 := (hG2.1 19 (by decide)).trans ((upd_o (by decide)).trans (upd_o (by decide)))
    have p129 : ∀ fa, ((fa = 1 ∧ Fa s.1 (s.1 17) by_) ∨ (fa = 0 ∧ ¬ Fa s.1 (s.1 17) by_)) → X 129 [some (.ref 0), some (.ref 1), some (.ref 2), some (.int (-1)), some (.int to), some (.int 0), some (.int by_), some (.int (s.1 17)), none, none, none] [.int fa] (g3 G2 Qa La) (0, 0) := fun fa hfa => tk_129 hX hI hL ht ha hby hgo rfl hfa hG2 hq hl hc
    refine go hX (fun pc => if pc = 129 then some 11 else none) 60 ?_
    refine And.intro (fun h => And.intro (fun h2 => And.intro (fun h3 => ?_) (fun h3 => ⟨in_lit (by decide), And.intro (fun h4 => ?_) (fun h4 => ?_)⟩)) (fun h2 => And.intro (fun h3 => ?_) (fun h3 => ?_))) (fun h => And.intro (fun h2 => ?_) (fun h2 => ?_))
    · exact p129 0 (Or.inr ⟨rfl, fun z => (z.2.2 h h2).1 h3⟩)
    · have h4' : ¬ G2 19 = 0 := h4
      rw [a19] at h4'
      exact p129 0 (Or.inr ⟨rfl, fun z => h4' (z.2.2 h h2).2⟩)
    · have h4' : G2 19 = 0 := h4
      rw [a19] at h4'
      exact p129 1 (Or.inl ⟨rfl, fun z => absurd z h, fun z => absurd z h2, fun _ _ => ⟨h3, h4'⟩⟩)
    · exact p129 0 (Or.inr ⟨rfl, fun z => Int32.not_lt.mpr h3 (z.2.1 h2)⟩)
    · exact p129 1 (Or.inl ⟨rfl, fun z => absurd z h, fun _ => Int32.not_le.mp h3, fun _ z => absurd h2 z⟩)
    · exact p129 0 (Or.inr ⟨rfl, fun z => Int32.not_lt.mpr h2 (z.1 h)⟩)
    · exact p129 1 (Or.inl ⟨rfl, fun _ => Int32.not_le.mp h2, fun z => by rw [show s.1 17 = 1 from h] at z; exact absurd z (by decide), fun z => absurd h z⟩)
  have p55 : ∀ (o : Option Nat) (sw to by_ : Int32) (G1 : Nat → Int32), aimS s.1 s.2.1 = (o, sw) → (∀ k, o = some k → k < s.2.1.length) → by_ = goalS s.1 s.2.1 o - s.1 16 → GU G1 (upd s.1 20 sw) s.2.1.length s.2.2.length → X 55 [some (.ref 0), some (.ref 1), some (.ref 2), some (.int (-1)), some (.int to), some (.int 0), none, none, none, none, none] [.int by_] (g3 G1 Qa La) (0, 0) := by
    intro o sw to by_ G1 ha hgo hby hG1
    have a17 : G1 17 = s.1 17 := (hG1.1 17 (by decide)).trans (upd_o (by decide))
    have a14 : G1 14 + G1 19 = s.1 14 + s.1 19 := by rw [hG1.1 14 (by decide), hG1.1 19 (by decide), upd_o (by decide), upd_o (by decide)]
    refine go hX (fun pc => if pc = 74 then some 11 else none) 30 ?_
    refine ⟨in_lit (by decide), in_lit (by decide), in_lit (by decide), in_lit (by decide), ?_⟩
    have := p74 o sw to by_ (upd G1 14 (G1 14 + G1 19)) ha hgo hby ((hG1.st (i := 14) (by decide) a14).cg (fun k hk => by
      show upd (upd s.1 20 sw) 14 (s.1 14 + s.1 19) k = upd (upd s.1 14 (s.1 14 + s.1 19)) 20 sw k
      unfold upd
      by_cases k14 : k = 14
      · subst k14; rfl
      · rw [if_neg k14, if_neg k14]))
    rw [← a17] at this
    exact this
  have p33 : ∀ (o : Option Nat) (sw to : Int32) (G1 : Nat → Int32), aimS s.1 s.2.1 = (o, sw) → (∀ k, o = some k → k < s.2.1.length) → to = ix o → GU G1 (upd s.1 20 sw) s.2.1.length s.2.2.length → X 33 [some (.ref 0), some (.ref 1), some (.ref 2), some (.int (-1)), some (.int to), some (.int 0), none, none, none, none, none] [] (g3 G1 Qa La) (0, 0) := by
    intro o sw to G1 ha hgo hto hG1
    have a16 : G1 16 = s.1 16 := (hG1.1 16 (by decide)).trans (upd_o (by decide))
    refine go hX (fun pc => if pc = 55 then some 11 else none) 30 ?_
    cases o with
    | none =>
      have ht0 : to = -1 := hto
      refine And.intro (fun h => absurd h (by rw [ht0]; decide)) (fun _ => ?_)
      exact p55 none sw to 0 G1 ha hgo (Int32.sub_self _).symm hG1
    | some k =>
      have hk := hgo k rfl
      have ht0 : to = nI k := hto
      subst ht0
      have v1 := qv (i := k) (j := 1) (N := 60) (by omega) (by decide) (by omega) (by decide)
      have c1 := qc (i := k) (j := 1) (by omega) (by decide)
      refine And.intro (fun _ => ⟨v1, in_lit (by decide), ?_⟩) (fun h => absurd (nI_pos' (by omega)) h)
      refine p55 (some k) sw (nI k) _ G1 ha hgo ?_ hG1
      show Qa ((5 : Int32) * nI k + nI 1).toNatClampNeg - G1 16 = (s.2.1.getD k d0).2.1 - s.1 16
      rw [c1, a16, row_q hq hk (j := 1) (by decide)]
      rfl
  have hself : ∀ sw, sw = s.1 20 → GU G (upd s.1 20 sw) s.2.1.length s.2.2.length := fun sw h => by rw [h, upd_self]; exact hG0
  refine go hX (fun pc => if pc = 33 then some 11 else none) 30 ?_
  refine ⟨in_lit (by decide), ?_⟩
  refine l_target (n := s.2.1.length) hG.2.1 hlen (fun k hk => lits_b hI hq e16 hk) ?_
  have ew : ltgt G Qa (G 2) s.2.1.length = ltgt G Qa (s.1 2) s.2.1.length := by rw [e2]
  rw [show (G (Int32.toNatClampNeg 2)) = G 2 from rfl, ew]
  rcases l_aim hI hq e16 e20 with ⟨b, l1, l2, l3⟩ | ⟨b, l1, l2, l3⟩ | ⟨l1, l2⟩
  · rw [l1]
    refine And.intro (fun _ => ?_) (fun h => absurd (nI_le (b := 99) (by omega) (by decide)) h)
    exact p33 (some b) (s.1 20) (nI b) G l2 (fun k hk => by cases hk; exact l3) rfl (hself _ rfl)
  · rw [l1]
    have e100 : nI b + 100 = nI (b + 100) := nI_add b 100
    refine And.intro (fun h => absurd h (by rw [e100]; exact nI_ge (a := 99) (by omega) (by omega))) (fun _ => ⟨in_lit (by decide), in_lit (by decide), ?_⟩)
    refine p33 (some b) (3 - s.1 20) _ _ l2 (fun k hk => by cases hk; exact l3) ?_ (hG0.st (i := 20) (by decide) (by rw [← e20]; rfl))
    show nI b + 100 + -100 = nI b
    rw [Int32.add_assoc, show (100 : Int32) + -100 = 0 by decide, Int32.add_zero]
  · rw [l1]
    refine And.intro (fun _ => ?_) (fun h => absurd (by decide) h)
    exact p33 none (s.1 20) (-1) G l2 (fun k hk => by cases hk) rfl (hself _ rfl)
