/-! ===== the law's helpers, each over the whole world ===== -/
variable {Q : AQ} {mc ms T : Nat} {sc len : Int32} {S L B : Nat → Int32} {R fc : Nat → Nat → Int32} {s : Sg} {c : Scn} {f : Nat → Option Nat} {tw : Wd} {wn : Nat → Wd} {g : Nat → Int64} {n0 n1 n2 n3 n4 n5 : AO}
theorem scl_1 {m : Nat} (h : 0 < m) : scl m [.ref 0] := fun w hw => by rw [List.mem_singleton.mp hw]; exact h
theorem scl_i {m : Nat} {x : Int32} {a : List Value} (h : scl m a) : scl m (.int x :: a) := scl.cons trivial h
theorem scl_r {m : Nat} {a : List Value} (h0 : 0 < m) (h : scl m a) : scl m (.ref 0 :: a) := scl.cons h0 h
theorem scl_n {m : Nat} : scl m [] := fun _ hw => nomatch hw
set_option maxRecDepth 20000 in
theorem h_plate {x1 x2 k v : Int32} {P : AM → Prop} (hP : P5 P) (hM : mcl (p5 sc s S R L tw f fc len B c (wins wn))) (h : OC tX9_plate [.ref 0, .int x1, .int x2] (p5 sc s S R L tw f fc len B c (wins wn)) P IAE IAE k v) (hk : k = 0 ∨ k = 1) (hno : ∀ E M, ¬ Q (.inr E) M)
    (hQ : ∀ M1 g1, P M1 → mcl M1 → (k = 0 → g1 0 = v.toInt64) → Q (.inl (some (.int k))) (M1 ++ nW n0 n1 n2 n3 n4 n5 g1)) : TrH tL_plate hhL_plate 1 6 [.ref 0, .int x1, .int x2, .ref 89] (p5 sc s S R L tw f fc len B c (wins wn) ++ nW n0 n1 n2 n3 n4 n5 g) Q := by
  refine TrH.of (opT := opTL_plate) sL_plate List.mem_cons_self sTL_plate hno (by decide +kernel) (Nat.le_of_ble_eq_true rfl) fun X hX hT => ?_
  have pE : ∀ sc s S R L tw f fc len B c wn, P (p5 sc s S R L tw f fc len B c (wins wn)) → mcl (p5 sc s S R L tw f fc len B c (wins wn)) → k = 0 → X 8 [some (.ref 0), some (.int x1), some (.int x2), some (.ref 89), none] [.int v, .int 0, .ref 89] (p5 sc s S R L tw f fc len B c (wins wn) ++ nW n0 n1 n2 n3 n4 n5 g) (0, 0) := by
    intro sc s S R L tw f fc len B c wn hp hc hk0
    refine go hX (fun _ => none) 20 ?_
    refine ⟨in_lit (by decide), ?_⟩
    have hq := hQ _ (vp_updL g 0 v.toInt64) hp hc (fun _ => by unfold vp_updL; exact if_pos rfl)
    rw [hk0] at hq
    exact hq
  refine go hX (fun pc => if pc = 5 then some 5 else none) 20 ?_
  refine hT _ _ _ _ ?_
  refine OC.pre h rfl hM (scl_r (by decide) (scl_i (scl_i (scl_n)))) hP.sz (fun M1 hp hc => ?_)
  obtain ⟨sc1, s1, S1, R1, L1, tw1, f1, fc1, len1, B1, c1, wn1, rfl⟩ := hP M1 hp
  rcases hk with rfl | rfl
  · exact pE _ _ _ _ _ _ _ _ _ _ _ _ hp hc rfl
  · exact ⟨1, by decide +kernel, hQ _ g hp hc (fun z => absurd z (by decide))⟩
set_option maxRecDepth 20000 in
theorem h_request {x1 x2 x3 k v : Int32} {P : AM → Prop} (hP : P5 P) (hM : mcl (p5 sc s S R L tw f fc len B c (wins wn))) (h : OC tX9_request [.ref 0, .int x1, .int x2, .int x3] (p5 sc s S R L tw f fc len B c (wins wn)) P IAE ISE k v) (hk : k = 0 ∨ k = 1 ∨ k = 2) (hno : ∀ E M, ¬ Q (.inr E) M)
    (hQ : ∀ M1 g1, P M1 → mcl M1 → (k = 0 → g1 0 = v.toInt64) → Q (.inl (some (.int k))) (M1 ++ nW n0 n1 n2 n3 n4 n5 g1)) : TrH tL_request hhL_request 1 6 [.ref 0, .int x1, .int x2, .int x3, .ref 89] (p5 sc s S R L tw f fc len B c (wins wn) ++ nW n0 n1 n2 n3 n4 n5 g) Q := by
  refine TrH.of (opT := opTL_request) sL_request List.mem_cons_self sTL_request hno (by decide +kernel) (Nat.le_of_ble_eq_true rfl) fun X hX hT => ?_
  have pE : ∀ sc s S R L tw f fc len B c wn, P (p5 sc s S R L tw f fc len B c (wins wn)) → mcl (p5 sc s S R L tw f fc len B c (wins wn)) → k = 0 → X 10 [some (.ref 0), some (.int x1), some (.int x2), some (.int x3), some (.ref 89), none] [.int v, .int 0, .ref 89] (p5 sc s S R L tw f fc len B c (wins wn) ++ nW n0 n1 n2 n3 n4 n5 g) (0, 0) := by
    intro sc s S R L tw f fc len B c wn hp hc hk0
    refine go hX (fun _ => none) 20 ?_
    refine ⟨in_lit (by decide), ?_⟩
    have hq := hQ _ (vp_updL g 0 v.toInt64) hp hc (fun _ => by unfold vp_updL; exact if_pos rfl)
    rw [hk0] at hq
    exact hq
  refine go hX (fun pc => if pc = 7 then some 6 else none) 20 ?_
  refine hT _ _ _ _ ?_
  refine OC.pre h rfl hM (scl_r (by decide) (scl_i (scl_i (scl_i (scl_n))))) hP.sz (fun M1 hp hc => ?_)
  obtain ⟨sc1, s1, S1, R1, L1, tw1, f1, fc1, len1, B1, c1, wn1, rfl⟩ := hP M1 hp
  rcases hk with rfl | rfl | rfl
  · exact pE _ _ _ _ _ _ _ _ _ _ _ _ hp hc rfl
  · exact ⟨1, by decide +kernel, hQ _ g hp hc (fun z => absurd z (by decide))⟩
  · exact ⟨2, by decide +kernel, hQ _ g hp hc (fun z => absurd z (by decide))⟩
set_option maxRecDepth 20000 in
theorem h_cancel {x1 k v : Int32} {P : AM → Prop} (hP : P5 P) (hM : mcl (p5 sc s S R L tw f fc len B c (wins wn))) (h : OC tX9_cancel [.ref 0, .int x1] (p5 sc s S R L tw f fc len B c (wins wn)) P IOE IOE k v) (hk : k = 0 ∨ k = 1) (hno : ∀ E M, ¬ Q (.inr E) M)
    (hQ : ∀ M1 g1, P M1 → mcl M1 → (k = 0 → g1 0 = v.toInt64) → Q (.inl (some (.int k))) (M1 ++ nW n0 n1 n2 n3 n4 n5 g1)) : TrH tL_cancel hhL_cancel 1 6 [.ref 0, .int x1, .ref 89] (p5 sc s S R L tw f fc len B c (wins wn) ++ nW n0 n1 n2 n3 n4 n5 g) Q := by
  refine TrH.of (opT := opTL_cancel) sL_cancel List.mem_cons_self sTL_cancel hno (by decide +kernel) (Nat.le_of_ble_eq_true rfl) fun X hX hT => ?_
  have pE : ∀ sc s S R L tw f fc len B c wn, P (p5 sc s S R L tw f fc len B c (wins wn)) → mcl (p5 sc s S R L tw f fc len B c (wins wn)) → k = 0 → X 7 [some (.ref 0), some (.int x1), some (.ref 89), none] [.int v, .int 0, .ref 89] (p5 sc s S R L tw f fc len B c (wins wn) ++ nW n0 n1 n2 n3 n4 n5 g) (0, 0) := by
    intro sc s S R L tw f fc len B c wn hp hc hk0
    refine go hX (fun _ => none) 20 ?_
    refine ⟨in_lit (by decide), ?_⟩
    have hq := hQ _ (vp_updL g 0 v.toInt64) hp hc (fun _ => by unfold vp_updL; exact if_pos rfl)
    rw [hk0] at hq
    exact hq
  refine go hX (fun pc => if pc = 4 then some 4 else none) 20 ?_
  refine hT _ _ _ _ ?_
  refine OC.pre h rfl hM (scl_r (by decide) (scl_i (scl_n))) hP.sz (fun M1 hp hc => ?_)
  obtain ⟨sc1, s1, S1, R1, L1, tw1, f1, fc1, len1, B1, c1, wn1, rfl⟩ := hP M1 hp
  rcases hk with rfl | rfl
  · exact pE _ _ _ _ _ _ _ _ _ _ _ _ hp hc rfl
  · exact ⟨1, by decide +kernel, hQ _ g hp hc (fun z => absurd z (by decide))⟩
set_option maxRecDepth 20000 in
theorem h_set {x1 x2 k v : Int32} {P : AM → Prop} (hP : P5 P) (hM : mcl (p5 sc s S R L tw f fc len B c (wins wn))) (h : OC tX9_set [.ref 0, .int x1, .int x2] (p5 sc s S R L tw f fc len B c (wins wn)) P IAE IAE k v) (hk : k = 0 ∨ k = 1) (hno : ∀ E M, ¬ Q (.inr E) M)
    (hQ : ∀ M1 g1, P M1 → mcl M1 → (k = 0 → g1 0 = v.toInt64) → Q (.inl (some (.int k))) (M1 ++ nW n0 n1 n2 n3 n4 n5 g1)) : TrH tL_set hhL_set 1 6 [.ref 0, .int x1, .int x2, .ref 89] (p5 sc s S R L tw f fc len B c (wins wn) ++ nW n0 n1 n2 n3 n4 n5 g) Q := by
  refine TrH.of (opT := opTL_set) sL_set List.mem_cons_self sTL_set hno (by decide +kernel) (Nat.le_of_ble_eq_true rfl) fun X hX hT => ?_
  have pE : ∀ sc s S R L tw f fc len B c wn, P (p5 sc s S R L tw f fc len B c (wins wn)) → mcl (p5 sc s S R L tw f fc len B c (wins wn)) → k = 0 → X 8 [some (.ref 0), some (.int x1), some (.int x2), some (.ref 89), none] [.int v, .int 0, .ref 89] (p5 sc s S R L tw f fc len B c (wins wn) ++ nW n0 n1 n2 n3 n4 n5 g) (0, 0) := by
    intro sc s S R L tw f fc len B c wn hp hc hk0
    refine go hX (fun _ => none) 20 ?_
    refine ⟨in_lit (by decide), ?_⟩
    have hq := hQ _ (vp_updL g 0 v.toInt64) hp hc (fun _ => by unfold vp_updL; exact if_pos rfl)
    rw [hk0] at hq
    exact hq
  refine go hX (fun pc => if pc = 5 then some 5 else none) 20 ?_
  refine hT _ _ _ _ ?_
  refine OC.pre h rfl hM (scl_r (by decide) (scl_i (scl_i (scl_n)))) hP.sz (fun M1 hp hc => ?_)
  obtain ⟨sc1, s1, S1, R1, L1, tw1, f1, fc1, len1, B1, c1, wn1, rfl⟩ := hP M1 hp
  rcases hk with rfl | rfl
  · exact pE _ _ _ _ _ _ _ _ _ _ _ _ hp hc rfl
  · exact ⟨1, by decide +kernel, hQ _ g hp hc (fun z => absurd z (by decide))⟩
set_option maxRecDepth 20000 in
theorem h_pass {x1 k v : Int32} {P : AM → Prop} (hP : P5 P) (hM : mcl (p5 sc s S R L tw f fc len B c (wins wn))) (h : OC tX9_pass [.ref 0, .int x1] (p5 sc s S R L tw f fc len B c (wins wn)) P IAE ISE k v) (hk : k = 0 ∨ k = 1 ∨ k = 2) (hno : ∀ E M, ¬ Q (.inr E) M)
    (hQ : ∀ M1 g1, P M1 → mcl M1 → (k = 0 → g1 0 = v.toInt64) → Q (.inl (some (.int k))) (M1 ++ nW n0 n1 n2 n3 n4 n5 g1)) : TrH tL_pass hhL_pass 1 6 [.ref 0, .int x1, .ref 89] (p5 sc s S R L tw f fc len B c (wins wn) ++ nW n0 n1 n2 n3 n4 n5 g) Q := by
  refine TrH.of (opT := opTL_pass) sL_pass List.mem_cons_self sTL_pass hno (by decide +kernel) (Nat.le_of_ble_eq_true rfl) fun X hX hT => ?_
  have pE : ∀ sc s S R L tw f fc len B c wn, P (p5 sc s S R L tw f fc len B c (wins wn)) → mcl (p5 sc s S R L tw f fc len B c (wins wn)) → k = 0 → X 7 [some (.ref 0), some (.int x1), some (.ref 89), none] [.int v, .int 0, .ref 89] (p5 sc s S R L tw f fc len B c (wins wn) ++ nW n0 n1 n2 n3 n4 n5 g) (0, 0) := by
    intro sc s S R L tw f fc len B c wn hp hc hk0
    refine go hX (fun _ => none) 20 ?_
    refine ⟨in_lit (by decide), ?_⟩
    have hq := hQ _ (vp_updL g 0 v.toInt64) hp hc (fun _ => by unfold vp_updL; exact if_pos rfl)
    rw [hk0] at hq
    exact hq
  refine go hX (fun pc => if pc = 4 then some 4 else none) 20 ?_
  refine hT _ _ _ _ ?_
  refine OC.pre h rfl hM (scl_r (by decide) (scl_i (scl_n))) hP.sz (fun M1 hp hc => ?_)
  obtain ⟨sc1, s1, S1, R1, L1, tw1, f1, fc1, len1, B1, c1, wn1, rfl⟩ := hP M1 hp
  rcases hk with rfl | rfl | rfl
  · exact pE _ _ _ _ _ _ _ _ _ _ _ _ hp hc rfl
  · exact ⟨1, by decide +kernel, hQ _ g hp hc (fun z => absurd z (by decide))⟩
  · exact ⟨2, by decide +kernel, hQ _ g hp hc (fun z => absurd z (by decide))⟩
set_option maxRecDepth 20000 in
theorem h_finish {k v : Int32} {P : AM → Prop} (hP : P5 P) (hM : mcl (p5 sc s S R L tw f fc len B c (wins wn))) (h : OC tX9_finish [.ref 0] (p5 sc s S R L tw f fc len B c (wins wn)) P ISE ISE k v) (hk : k = 0 ∨ k = 1) (hno : ∀ E M, ¬ Q (.inr E) M)
    (hQ : ∀ M1 g1, P M1 → mcl M1 → (k = 0 → g1 0 = v.toInt64) → Q (.inl (some (.int k))) (M1 ++ nW n0 n1 n2 n3 n4 n5 g1)) : TrH tL_finish hhL_finish 1 6 [.ref 0, .ref 89] (p5 sc s S R L tw f fc len B c (wins wn) ++ nW n0 n1 n2 n3 n4 n5 g) Q := by
  refine TrH.of (opT := opTL_finish) sL_finish List.mem_cons_self sTL_finish hno (by decide +kernel) (Nat.le_of_ble_eq_true rfl) fun X hX hT => ?_
  have pE : ∀ sc s S R L tw f fc len B c wn, P (p5 sc s S R L tw f fc len B c (wins wn)) → mcl (p5 sc s S R L tw f fc len B c (wins wn)) → k = 0 → X 6 [some (.ref 0), some (.ref 89), none] [.int v, .int 0, .ref 89] (p5 sc s S R L tw f fc len B c (wins wn) ++ nW n0 n1 n2 n3 n4 n5 g) (0, 0) := by
    intro sc s S R L tw f fc len B c wn hp hc hk0
    refine go hX (fun _ => none) 20 ?_
    refine ⟨in_lit (by decide), ?_⟩
    have hq := hQ _ (vp_updL g 0 v.toInt64) hp hc (fun _ => by unfold vp_updL; exact if_pos rfl)
    rw [hk0] at hq
    exact hq
  refine go hX (fun pc => if pc = 3 then some 3 else none) 20 ?_
  refine hT _ _ _ _ ?_
  refine OC.pre h rfl hM (scl_r (by decide) (scl_n)) hP.sz (fun M1 hp hc => ?_)
  obtain ⟨sc1, s1, S1, R1, L1, tw1, f1, fc1, len1, B1, c1, wn1, rfl⟩ := hP M1 hp
  rcases hk with rfl | rfl
  · exact pE _ _ _ _ _ _ _ _ _ _ _ _ hp hc rfl
  · exact ⟨1, by decide +kernel, hQ _ g hp hc (fun z => absurd z (by decide))⟩
set_option maxRecDepth 20000 in
theorem h_requestOf {x1 x2 k v : Int32} {P : AM → Prop} (hP : P5 P) (hM : mcl (p5 sc s S R L tw f fc len B c (wins wn))) (h : OC tX9_requestOf [.ref 0, .int x1, .int x2] (p5 sc s S R L tw f fc len B c (wins wn)) P IOE IAE k v) (hk : k = 0 ∨ k = 1 ∨ k = 2) (hno : ∀ E M, ¬ Q (.inr E) M)
    (hQ : ∀ M1 g1, P M1 → mcl M1 → (k = 0 → g1 0 = v.toInt64) → Q (.inl (some (.int k))) (M1 ++ nW n0 n1 n2 n3 n4 n5 g1)) : TrH tL_requestOf hhL_requestOf 1 6 [.ref 0, .int x1, .int x2, .ref 89] (p5 sc s S R L tw f fc len B c (wins wn) ++ nW n0 n1 n2 n3 n4 n5 g) Q := by
  refine TrH.of (opT := opTL_requestOf) sL_requestOf List.mem_cons_self sTL_requestOf hno (by decide +kernel) (Nat.le_of_ble_eq_true rfl) fun X hX hT => ?_
  have pE : ∀ sc s S R L tw f fc len B c wn, P (p5 sc s S R L tw f fc len B c (wins wn)) → mcl (p5 sc s S R L tw f fc len B c (wins wn)) → k = 0 → X 8 [some (.ref 0), some (.int x1), some (.int x2), some (.ref 89), none] [.int v, .int 0, .ref 89] (p5 sc s S R L tw f fc len B c (wins wn) ++ nW n0 n1 n2 n3 n4 n5 g) (0, 0) := by
    intro sc s S R L tw f fc len B c wn hp hc hk0
    refine go hX (fun _ => none) 20 ?_
    refine ⟨in_lit (by decide), ?_⟩
    have hq := hQ _ (vp_updL g 0 v.toInt64) hp hc (fun _ => by unfold vp_updL; exact if_pos rfl)
    rw [hk0] at hq
    exact hq
  refine go hX (fun pc => if pc = 5 then some 5 else none) 20 ?_
  refine hT _ _ _ _ ?_
  refine OC.pre h rfl hM (scl_r (by decide) (scl_i (scl_i (scl_n)))) hP.sz (fun M1 hp hc => ?_)
  obtain ⟨sc1, s1, S1, R1, L1, tw1, f1, fc1, len1, B1, c1, wn1, rfl⟩ := hP M1 hp
  rcases hk with rfl | rfl | rfl
  · exact pE _ _ _ _ _ _ _ _ _ _ _ _ hp hc rfl
  · exact ⟨1, by decide +kernel, hQ _ g hp hc (fun z => absurd z (by decide))⟩
  · exact ⟨2, by decide +kernel, hQ _ g hp hc (fun z => absurd z (by decide))⟩
set_option maxRecDepth 20000 in
theorem h_requestAt {x1 k v : Int32} {P : AM → Prop} (hP : P5 P) (hM : mcl (p5 sc s S R L tw f fc len B c (wins wn))) (h : OC tX9_requestAt [.ref 0, .int x1] (p5 sc s S R L tw f fc len B c (wins wn)) P IAE IAE k v) (hk : k = 0 ∨ k = 1) (hno : ∀ E M, ¬ Q (.inr E) M)
    (hQ : ∀ M1 g1, P M1 → mcl M1 → (k = 0 → g1 0 = v.toInt64) → Q (.inl (some (.int k))) (M1 ++ nW n0 n1 n2 n3 n4 n5 g1)) : TrH tL_requestAt hhL_requestAt 1 6 [.ref 0, .int x1, .ref 89] (p5 sc s S R L tw f fc len B c (wins wn) ++ nW n0 n1 n2 n3 n4 n5 g) Q := by
  refine TrH.of (opT := opTL_requestAt) sL_requestAt List.mem_cons_self sTL_requestAt hno (by decide +kernel) (Nat.le_of_ble_eq_true rfl) fun X hX hT => ?_
  have pE : ∀ sc s S R L tw f fc len B c wn, P (p5 sc s S R L tw f fc len B c (wins wn)) → mcl (p5 sc s S R L tw f fc len B c (wins wn)) → k = 0 → X 7 [some (.ref 0), some (.int x1), some (.ref 89), none] [.int v, .int 0, .ref 89] (p5 sc s S R L tw f fc len B c (wins wn) ++ nW n0 n1 n2 n3 n4 n5 g) (0, 0) := by
    intro sc s S R L tw f fc len B c wn hp hc hk0
    refine go hX (fun _ => none) 20 ?_
    refine ⟨in_lit (by decide), ?_⟩
    have hq := hQ _ (vp_updL g 0 v.toInt64) hp hc (fun _ => by unfold vp_updL; exact if_pos rfl)
    rw [hk0] at hq
    exact hq
  refine go hX (fun pc => if pc = 4 then some 4 else none) 20 ?_
  refine hT _ _ _ _ ?_
  refine OC.pre h rfl hM (scl_r (by decide) (scl_i (scl_n))) hP.sz (fun M1 hp hc => ?_)
  obtain ⟨sc1, s1, S1, R1, L1, tw1, f1, fc1, len1, B1, c1, wn1, rfl⟩ := hP M1 hp
  rcases hk with rfl | rfl
  · exact pE _ _ _ _ _ _ _ _ _ _ _ _ hp hc rfl
  · exact ⟨1, by decide +kernel, hQ _ g hp hc (fun z => absurd z (by decide))⟩
set_option maxRecDepth 20000 in
theorem h_logged {x1 x2 k v : Int32} {P : AM → Prop} (hP : P5 P) (hM : mcl (p5 sc s S R L tw f fc len B c (wins wn))) (h : OC tX9_logged [.ref 0, .int x1, .int x2] (p5 sc s S R L tw f fc len B c (wins wn)) P IAE IAE k v) (hk : k = 0 ∨ k = 1) (hno : ∀ E M, ¬ Q (.inr E) M)
    (hQ : ∀ M1 g1, P M1 → mcl M1 → (k = 0 → g1 0 = v.toInt64) → Q (.inl (some (.int k))) (M1 ++ nW n0 n1 n2 n3 n4 n5 g1)) : TrH tL_logged hhL_logged 1 6 [.ref 0, .int x1, .int x2, .ref 89] (p5 sc s S R L tw f fc len B c (wins wn) ++ nW n0 n1 n2 n3 n4 n5 g) Q := by
  refine TrH.of (opT := opTL_logged) sL_logged List.mem_cons_self sTL_logged hno (by decide +kernel) (Nat.le_of_ble_eq_true rfl) fun X hX hT => ?_
  have pE : ∀ sc s S R L tw f fc len B c wn, P (p5 sc s S R L tw f fc len B c (wins wn)) → mcl (p5 sc s S R L tw f fc len B c (wins wn)) → k = 0 → X 8 [some (.ref 0), some (.int x1), some (.int x2), some (.ref 89), none] [.int v, .int 0, .ref 89] (p5 sc s S R L tw f fc len B c (wins wn) ++ nW n0 n1 n2 n3 n4 n5 g) (0, 0) := by
    intro sc s S R L tw f fc len B c wn hp hc hk0
    refine go hX (fun _ => none) 20 ?_
    refine ⟨in_lit (by decide), ?_⟩
    have hq := hQ _ (vp_updL g 0 v.toInt64) hp hc (fun _ => by unfold vp_updL; exact if_pos rfl)
    rw [hk0] at hq
    exact hq
  refine go hX (fun pc => if pc = 5 then some 5 else none) 20 ?_
  refine hT _ _ _ _ ?_
  refine OC.pre h rfl hM (scl_r (by decide) (scl_i (scl_i (scl_n)))) hP.sz (fun M1 hp hc => ?_)
  obtain ⟨sc1, s1, S1, R1, L1, tw1, f1, fc1, len1, B1, c1, wn1, rfl⟩ := hP M1 hp
  rcases hk with rfl | rfl
  · exact pE _ _ _ _ _ _ _ _ _ _ _ _ hp hc rfl
  · exact ⟨1, by decide +kernel, hQ _ g hp hc (fun z => absurd z (by decide))⟩
set_option maxRecDepth 20000 in
theorem h_arm {x1 k v : Int32} {P : AM → Prop} (hP : P5 P) (hM : mcl (p5 sc s S R L tw f fc len B c (wins wn))) (h : OC tX9_arm [.ref 0, .int x1] (p5 sc s S R L tw f fc len B c (wins wn)) P IAE IAE k v) (hk : k = 0 ∨ k = 1) (hno : ∀ E M, ¬ Q (.inr E) M)
    (hQ : ∀ M1 g1, P M1 → mcl M1 → (k = 0 → g1 0 = v.toInt64) → Q (.inl (some (.int k))) (M1 ++ nW n0 n1 n2 n3 n4 n5 g1)) : TrH tL_arm hhL_arm 1 6 [.ref 0, .int x1, .ref 89] (p5 sc s S R L tw f fc len B c (wins wn) ++ nW n0 n1 n2 n3 n4 n5 g) Q := by
  refine TrH.of (opT := opTL_arm) sL_arm List.mem_cons_self sTL_arm hno (by decide +kernel) (Nat.le_of_ble_eq_true rfl) fun X hX hT => ?_
  have pE : ∀ sc s S R L tw f fc len B c wn, P (p5 sc s S R L tw f fc len B c (wins wn)) → mcl (p5 sc s S R L tw f fc len B c (wins wn)) → k = 0 → X 7 [some (.ref 0), some (.int x1), some (.ref 89), none] [.int v, .int 0, .ref 89] (p5 sc s S R L tw f fc len B c (wins wn) ++ nW n0 n1 n2 n3 n4 n5 g) (0, 0) := by
    intro sc s S R L tw f fc len B c wn hp hc hk0
    refine go hX (fun _ => none) 20 ?_
    refine ⟨in_lit (by decide), ?_⟩
    have hq := hQ _ (vp_updL g 0 v.toInt64) hp hc (fun _ => by unfold vp_updL; exact if_pos rfl)
    rw [hk0] at hq
    exact hq
  refine go hX (fun pc => if pc = 4 then some 4 else none) 20 ?_
  refine hT _ _ _ _ ?_
  refine OC.pre h rfl hM (scl_r (by decide) (scl_i (scl_n))) hP.sz (fun M1 hp hc => ?_)
  obtain ⟨sc1, s1, S1, R1, L1, tw1, f1, fc1, len1, B1, c1, wn1, rfl⟩ := hP M1 hp
  rcases hk with rfl | rfl
  · exact pE _ _ _ _ _ _ _ _ _ _ _ _ hp hc rfl
  · exact ⟨1, by decide +kernel, hQ _ g hp hc (fun z => absurd z (by decide))⟩
set_option maxRecDepth 20000 in
theorem h_whole {x1 k v : Int32} {P : AM → Prop} (hP : P5 P) (hM : mcl (p5 sc s S R L tw f fc len B c (wins wn))) (h : OC tX9_whole [.ref 0, .int x1] (p5 sc s S R L tw f fc len B c (wins wn)) P IAE IAE k v) (hk : k = 0 ∨ k = 1) (hno : ∀ E M, ¬ Q (.inr E) M)
    (hQ : ∀ M1 g1, P M1 → mcl M1 → (k = 0 → g1 0 = v.toInt64) → Q (.inl (some (.int k))) (M1 ++ nW n0 n1 n2 n3 n4 n5 g1)) : TrH tL_whole hhL_whole 1 6 [.ref 0, .int x1, .ref 89] (p5 sc s S R L tw f fc len B c (wins wn) ++ nW n0 n1 n2 n3 n4 n5 g) Q := by
  refine TrH.of (opT := opTL_whole) sL_whole List.mem_cons_self sTL_whole hno (by decide +kernel) (Nat.le_of_ble_eq_true rfl) fun X hX hT => ?_
  have pE : ∀ sc s S R L tw f fc len B c wn, P (p5 sc s S R L tw f fc len B c (wins wn)) → mcl (p5 sc s S R L tw f fc len B c (wins wn)) → k = 0 → X 7 [some (.ref 0), some (.int x1), some (.ref 89), none] [.int v, .int 0, .ref 89] (p5 sc s S R L tw f fc len B c (wins wn) ++ nW n0 n1 n2 n3 n4 n5 g) (0, 0) := by
    intro sc s S R L tw f fc len B c wn hp hc hk0
    refine go hX (fun _ => none) 20 ?_
    refine ⟨in_lit (by decide), ?_⟩
    have hq := hQ _ (vp_updL g 0 v.toInt64) hp hc (fun _ => by unfold vp_updL; exact if_pos rfl)
    rw [hk0] at hq
    exact hq
  refine go hX (fun pc => if pc = 4 then some 4 else none) 20 ?_
  refine hT _ _ _ _ ?_
  refine OC.pre h rfl hM (scl_r (by decide) (scl_i (scl_n))) hP.sz (fun M1 hp hc => ?_)
  obtain ⟨sc1, s1, S1, R1, L1, tw1, f1, fc1, len1, B1, c1, wn1, rfl⟩ := hP M1 hp
  rcases hk with rfl | rfl
  · exact pE _ _ _ _ _ _ _ _ _ _ _ _ hp hc rfl
  · exact ⟨1, by decide +kernel, hQ _ g hp hc (fun z => absurd z (by decide))⟩
set_option maxRecDepth 20000 in
theorem h_target {x1 k v : Int32} {P : AM → Prop} (hP : P5 P) (hM : mcl (p5 sc s S R L tw f fc len B c (wins wn))) (h : OC tX9_target [.ref 0, .int x1] (p5 sc s S R L tw f fc len B c (wins wn)) P IAE IAE k v) (hk : k = 0 ∨ k = 1) (hno : ∀ E M, ¬ Q (.inr E) M)
    (hQ : ∀ M1 g1, P M1 → mcl M1 → (k = 0 → g1 0 = v.toInt64) → Q (.inl (some (.int k))) (M1 ++ nW n0 n1 n2 n3 n4 n5 g1)) : TrH tL_target hhL_target 1 6 [.ref 0, .int x1, .ref 89] (p5 sc s S R L tw f fc len B c (wins wn) ++ nW n0 n1 n2 n3 n4 n5 g) Q := by
  refine TrH.of (opT := opTL_target) sL_target List.mem_cons_self sTL_target hno (by decide +kernel) (Nat.le_of_ble_eq_true rfl) fun X hX hT => ?_
  have pE : ∀ sc s S R L tw f fc len B c wn, P (p5 sc s S R L tw f fc len B c (wins wn)) → mcl (p5 sc s S R L tw f fc len B c (wins wn)) → k = 0 → X 7 [some (.ref 0), some (.int x1), some (.ref 89), none] [.int v, .int 0, .ref 89] (p5 sc s S R L tw f fc len B c (wins wn) ++ nW n0 n1 n2 n3 n4 n5 g) (0, 0) := by
    intro sc s S R L tw f fc len B c wn hp hc hk0
    refine go hX (fun _ => none) 20 ?_
    refine ⟨in_lit (by decide), ?_⟩
    have hq := hQ _ (vp_updL g 0 v.toInt64) hp hc (fun _ => by unfold vp_updL; exact if_pos rfl)
    rw [hk0] at hq
    exact hq
  refine go hX (fun pc => if pc = 4 then some 4 else none) 20 ?_
  refine hT _ _ _ _ ?_
  refine OC.pre h rfl hM (scl_r (by decide) (scl_i (scl_n))) hP.sz (fun M1 hp hc => ?_)
  obtain ⟨sc1, s1, S1, R1, L1, tw1, f1, fc1, len1, B1, c1, wn1, rfl⟩ := hP M1 hp
  rcases hk with rfl | rfl
  · exact pE _ _ _ _ _ _ _ _ _ _ _ _ hp hc rfl
  · exact ⟨1, by decide +kernel, hQ _ g hp hc (fun z => absurd z (by decide))⟩
set_option maxRecDepth 20000 in
theorem h_readIn {x1 k v : Int32} {P : AM → Prop} (hP : P5 P) (hM : mcl (p5 sc s S R L tw f fc len B c (wins wn))) (h : OC tX9_readIn [.ref 0, .int x1] (p5 sc s S R L tw f fc len B c (wins wn)) P IOE IOE k v) (hk : k = 0 ∨ k = 1) (hno : ∀ E M, ¬ Q (.inr E) M)
    (hQ : ∀ M1 g1, P M1 → mcl M1 → (k = 0 → g1 0 = v.toInt64) → Q (.inl (some (.int k))) (M1 ++ nW n0 n1 n2 n3 n4 n5 g1)) : TrH tL_readIn hhL_readIn 1 6 [.ref 0, .int x1, .ref 89] (p5 sc s S R L tw f fc len B c (wins wn) ++ nW n0 n1 n2 n3 n4 n5 g) Q := by
  refine TrH.of (opT := opTL_readIn) sL_readIn List.mem_cons_self sTL_readIn hno (by decide +kernel) (Nat.le_of_ble_eq_true rfl) fun X hX hT => ?_
  have pE : ∀ sc s S R L tw f fc len B c wn, P (p5 sc s S R L tw f fc len B c (wins wn)) → mcl (p5 sc s S R L tw f fc len B c (wins wn)) → k = 0 → X 7 [some (.ref 0), some (.int x1), some (.ref 89), none] [.int v, .int 0, .ref 89] (p5 sc s S R L tw f fc len B c (wins wn) ++ nW n0 n1 n2 n3 n4 n5 g) (0, 0) := by
    intro sc s S R L tw f fc len B c wn hp hc hk0
    refine go hX (fun _ => none) 20 ?_
    refine ⟨in_lit (by decide), ?_⟩
    have hq := hQ _ (vp_updL g 0 v.toInt64) hp hc (fun _ => by unfold vp_updL; exact if_pos rfl)
    rw [hk0] at hq
    exact hq
  refine go hX (fun pc => if pc = 4 then some 4 else none) 20 ?_
  refine hT _ _ _ _ ?_
  refine OC.pre h rfl hM (scl_r (by decide) (scl_i (scl_n))) hP.sz (fun M1 hp hc => ?_)
  obtain ⟨sc1, s1, S1, R1, L1, tw1, f1, fc1, len1, B1, c1, wn1, rfl⟩ := hP M1 hp
  rcases hk with rfl | rfl
  · exact pE _ _ _ _ _ _ _ _ _ _ _ _ hp hc rfl
  · exact ⟨1, by decide +kernel, hQ _ g hp hc (fun z => absurd z (by decide))⟩
set_option maxRecDepth 20000 in
theorem h_finishBy {x1 x2 k v : Int32} {P : AM → Prop} (hP : P5 P) (hM : mcl (p5 sc s S R L tw f fc len B c (wins wn))) (h : OC tX9_finishBy [.ref 0, .int x1, .int x2] (p5 sc s S R L tw f fc len B c (wins wn)) P IAE IAE k v) (hk : k = 0 ∨ k = 1) (hno : ∀ E M, ¬ Q (.inr E) M)
    (hQ : ∀ M1 g1, P M1 → mcl M1 → (k = 0 → g1 0 = v.toInt64) → Q (.inl (some (.int k))) (M1 ++ nW n0 n1 n2 n3 n4 n5 g1)) : TrH tL_finishBy hhL_finishBy 1 6 [.ref 0, .int x1, .int x2, .ref 89] (p5 sc s S R L tw f fc len B c (wins wn) ++ nW n0 n1 n2 n3 n4 n5 g) Q := by
  refine TrH.of (opT := opTL_finishBy) sL_finishBy List.mem_cons_self sTL_finishBy hno (by decide +kernel) (Nat.le_of_ble_eq_true rfl) fun X hX hT => ?_
  have pE : ∀ sc s S R L tw f fc len B c wn, P (p5 sc s S R L tw f fc len B c (wins wn)) → mcl (p5 sc s S R L tw f fc len B c (wins wn)) → k = 0 → X 8 [some (.ref 0), some (.int x1), some (.int x2), some (.ref 89), none] [.int v, .int 0, .ref 89] (p5 sc s S R L tw f fc len B c (wins wn) ++ nW n0 n1 n2 n3 n4 n5 g) (0, 0) := by
    intro sc s S R L tw f fc len B c wn hp hc hk0
    refine go hX (fun _ => none) 20 ?_
    refine ⟨in_lit (by decide), ?_⟩
    have hq := hQ _ (vp_updL g 0 v.toInt64) hp hc (fun _ => by unfold vp_updL; exact if_pos rfl)
    rw [hk0] at hq
    exact hq
  refine go hX (fun pc => if pc = 5 then some 5 else none) 20 ?_
  refine hT _ _ _ _ ?_
  refine OC.pre h rfl hM (scl_r (by decide) (scl_i (scl_i (scl_n)))) hP.sz (fun M1 hp hc => ?_)
  obtain ⟨sc1, s1, S1, R1, L1, tw1, f1, fc1, len1, B1, c1, wn1, rfl⟩ := hP M1 hp
  rcases hk with rfl | rfl
  · exact pE _ _ _ _ _ _ _ _ _ _ _ _ hp hc rfl
  · exact ⟨1, by decide +kernel, hQ _ g hp hc (fun z => absurd z (by decide))⟩
set_option maxRecDepth 20000 in
theorem h_heatIn {x1 k v : Int32} {P : AM → Prop} (hP : P5 P) (hM : mcl (p5 sc s S R L tw f fc len B c (wins wn))) (h : OC tX9_heatIn [.ref 0, .int x1] (p5 sc s S R L tw f fc len B c (wins wn)) P IAE IAE k v) (hk : k = 0 ∨ k = 1) (hno : ∀ E M, ¬ Q (.inr E) M)
    (hQ : ∀ M1 g1, P M1 → mcl M1 → (k = 0 → g1 0 = v.toInt64) → Q (.inl (some (.int k))) (M1 ++ nW n0 n1 n2 n3 n4 n5 g1)) : TrH tL_heatIn hhL_heatIn 1 6 [.ref 0, .int x1, .ref 89] (p5 sc s S R L tw f fc len B c (wins wn) ++ nW n0 n1 n2 n3 n4 n5 g) Q := by
  refine TrH.of (opT := opTL_heatIn) sL_heatIn List.mem_cons_self sTL_heatIn hno (by decide +kernel) (Nat.le_of_ble_eq_true rfl) fun X hX hT => ?_
  have pE : ∀ sc s S R L tw f fc len B c wn, P (p5 sc s S R L tw f fc len B c (wins wn)) → mcl (p5 sc s S R L tw f fc len B c (wins wn)) → k = 0 → X 7 [some (.ref 0), some (.int x1), some (.ref 89), none] [.int v, .int 0, .ref 89] (p5 sc s S R L tw f fc len B c (wins wn) ++ nW n0 n1 n2 n3 n4 n5 g) (0, 0) := by
    intro sc s S R L tw f fc len B c wn hp hc hk0
    refine go hX (fun _ => none) 20 ?_
    refine ⟨in_lit (by decide), ?_⟩
    have hq := hQ _ (vp_updL g 0 v.toInt64) hp hc (fun _ => by unfold vp_updL; exact if_pos rfl)
    rw [hk0] at hq
    exact hq
  refine go hX (fun pc => if pc = 4 then some 4 else none) 20 ?_
  refine hT _ _ _ _ ?_
  refine OC.pre h rfl hM (scl_r (by decide) (scl_i (scl_n))) hP.sz (fun M1 hp hc => ?_)
  obtain ⟨sc1, s1, S1, R1, L1, tw1, f1, fc1, len1, B1, c1, wn1, rfl⟩ := hP M1 hp
  rcases hk with rfl | rfl
  · exact pE _ _ _ _ _ _ _ _ _ _ _ _ hp hc rfl
  · exact ⟨1, by decide +kernel, hQ _ g hp hc (fun z => absurd z (by decide))⟩
set_option maxRecDepth 20000 in
theorem h_reason {x1 k v : Int32} {P : AM → Prop} (hP : P5 P) (hM : mcl (p5 sc s S R L tw f fc len B c (wins wn))) (h : OC tX9_reason [.ref 0, .int x1] (p5 sc s S R L tw f fc len B c (wins wn)) P IOE IOE k v) (hk : k = 0 ∨ k = 1) (hno : ∀ E M, ¬ Q (.inr E) M)
    (hQ : ∀ M1 g1, P M1 → mcl M1 → (k = 0 → g1 0 = v.toInt64) → Q (.inl (some (.int k))) (M1 ++ nW n0 n1 n2 n3 n4 n5 g1)) : TrH tL_reason hhL_reason 1 6 [.ref 0, .int x1, .ref 89] (p5 sc s S R L tw f fc len B c (wins wn) ++ nW n0 n1 n2 n3 n4 n5 g) Q := by
  refine TrH.of (opT := opTL_reason) sL_reason List.mem_cons_self sTL_reason hno (by decide +kernel) (Nat.le_of_ble_eq_true rfl) fun X hX hT => ?_
  have pE : ∀ sc s S R L tw f fc len B c wn, P (p5 sc s S R L tw f fc len B c (wins wn)) → mcl (p5 sc s S R L tw f fc len B c (wins wn)) → k = 0 → X 7 [some (.ref 0), some (.int x1), some (.ref 89), none] [.int v, .int 0, .ref 89] (p5 sc s S R L tw f fc len B c (wins wn) ++ nW n0 n1 n2 n3 n4 n5 g) (0, 0) := by
    intro sc s S R L tw f fc len B c wn hp hc hk0
    refine go hX (fun _ => none) 20 ?_
    refine ⟨in_lit (by decide), ?_⟩
    have hq := hQ _ (vp_updL g 0 v.toInt64) hp hc (fun _ => by unfold vp_updL; exact if_pos rfl)
    rw [hk0] at hq
    exact hq
  refine go hX (fun pc => if pc = 4 then some 4 else none) 20 ?_
  refine hT _ _ _ _ ?_
  refine OC.pre h rfl hM (scl_r (by decide) (scl_i (scl_n))) hP.sz (fun M1 hp hc => ?_)
  obtain ⟨sc1, s1, S1, R1, L1, tw1, f1, fc1, len1, B1, c1, wn1, rfl⟩ := hP M1 hp
  rcases hk with rfl | rfl
  · exact pE _ _ _ _ _ _ _ _ _ _ _ _ hp hc rfl
  · exact ⟨1, by decide +kernel, hQ _ g hp hc (fun z => absurd z (by decide))⟩
set_option maxRecDepth 20000 in
theorem h_type {x1 k v : Int32} {P : AM → Prop} (hP : P5 P) (hM : mcl (p5 sc s S R L tw f fc len B c (wins wn))) (h : OC tX9_type [.ref 0, .int x1] (p5 sc s S R L tw f fc len B c (wins wn)) P IAE ISE k v) (hk : k = 0 ∨ k = 1 ∨ k = 2) (hno : ∀ E M, ¬ Q (.inr E) M)
    (hQ : ∀ M1 g1, P M1 → mcl M1 → (k = 0 → g1 0 = v.toInt64) → Q (.inl (some (.int k))) (M1 ++ nW n0 n1 n2 n3 n4 n5 g1)) : TrH tL_type hhL_type 1 6 [.ref 0, .int x1, .ref 89] (p5 sc s S R L tw f fc len B c (wins wn) ++ nW n0 n1 n2 n3 n4 n5 g) Q := by
  refine TrH.of (opT := opTL_type) sL_type List.mem_cons_self sTL_type hno (by decide +kernel) (Nat.le_of_ble_eq_true rfl) fun X hX hT => ?_
  have pE : ∀ sc s S R L tw f fc len B c wn, P (p5 sc s S R L tw f fc len B c (wins wn)) → mcl (p5 sc s S R L tw f fc len B c (wins wn)) → k = 0 → X 7 [some (.ref 0), some (.int x1), some (.ref 89), none] [.int v, .int 0, .ref 89] (p5 sc s S R L tw f fc len B c (wins wn) ++ nW n0 n1 n2 n3 n4 n5 g) (0, 0) := by
    intro sc s S R L tw f fc len B c wn hp hc hk0
    refine go hX (fun _ => none) 20 ?_
    refine ⟨in_lit (by decide), ?_⟩
    have hq := hQ _ (vp_updL g 0 v.toInt64) hp hc (fun _ => by unfold vp_updL; exact if_pos rfl)
    rw [hk0] at hq
    exact hq
  refine go hX (fun pc => if pc = 4 then some 4 else none) 20 ?_
  refine hT _ _ _ _ ?_
  refine OC.pre h rfl hM (scl_r (by decide) (scl_i (scl_n))) hP.sz (fun M1 hp hc => ?_)
  obtain ⟨sc1, s1, S1, R1, L1, tw1, f1, fc1, len1, B1, c1, wn1, rfl⟩ := hP M1 hp
  rcases hk with rfl | rfl | rfl
  · exact pE _ _ _ _ _ _ _ _ _ _ _ _ hp hc rfl
  · exact ⟨1, by decide +kernel, hQ _ g hp hc (fun z => absurd z (by decide))⟩
  · exact ⟨2, by decide +kernel, hQ _ g hp hc (fun z => absurd z (by decide))⟩
set_option maxRecDepth 20000 in
theorem h_undo {k v : Int32} {P : AM → Prop} (hP : P5 P) (hM : mcl (p5 sc s S R L tw f fc len B c (wins wn))) (h : OC tX9_undo [.ref 0] (p5 sc s S R L tw f fc len B c (wins wn)) P ISE ISE k v) (hk : k = 0 ∨ k = 1) (hno : ∀ E M, ¬ Q (.inr E) M)
    (hQ : ∀ M1 g1, P M1 → mcl M1 → (k = 0 → g1 0 = v.toInt64) → Q (.inl (some (.int k))) (M1 ++ nW n0 n1 n2 n3 n4 n5 g1)) : TrH tL_undo hhL_undo 1 6 [.ref 0, .ref 89] (p5 sc s S R L tw f fc len B c (wins wn) ++ nW n0 n1 n2 n3 n4 n5 g) Q := by
  refine TrH.of (opT := opTL_undo) sL_undo List.mem_cons_self sTL_undo hno (by decide +kernel) (Nat.le_of_ble_eq_true rfl) fun X hX hT => ?_
  have pE : ∀ sc s S R L tw f fc len B c wn, P (p5 sc s S R L tw f fc len B c (wins wn)) → mcl (p5 sc s S R L tw f fc len B c (wins wn)) → k = 0 → X 6 [some (.ref 0), some (.ref 89), none] [.int v, .int 0, .ref 89] (p5 sc s S R L tw f fc len B c (wins wn) ++ nW n0 n1 n2 n3 n4 n5 g) (0, 0) := by
    intro sc s S R L tw f fc len B c wn hp hc hk0
    refine go hX (fun _ => none) 20 ?_
    refine ⟨in_lit (by decide), ?_⟩
    have hq := hQ _ (vp_updL g 0 v.toInt64) hp hc (fun _ => by unfold vp_updL; exact if_pos rfl)
    rw [hk0] at hq
    exact hq
  refine go hX (fun pc => if pc = 3 then some 3 else none) 20 ?_
  refine hT _ _ _ _ ?_
  refine OC.pre h rfl hM (scl_r (by decide) (scl_n)) hP.sz (fun M1 hp hc => ?_)
  obtain ⟨sc1, s1, S1, R1, L1, tw1, f1, fc1, len1, B1, c1, wn1, rfl⟩ := hP M1 hp
  rcases hk with rfl | rfl
  · exact pE _ _ _ _ _ _ _ _ _ _ _ _ hp hc rfl
  · exact ⟨1, by decide +kernel, hQ _ g hp hc (fun z => absurd z (by decide))⟩
