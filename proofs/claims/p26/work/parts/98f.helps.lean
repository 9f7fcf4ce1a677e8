/-! ===== the law's helpers, each over the whole world ===== -/
variable {Q : AQ} {mc ms T : Nat} {sc len : Int32} {S L B : Nat → Int32} {R fc : Nat → Nat → Int32} {s : Sg} {c : Scn} {f : Nat → Option Nat} {tw : Wd} {wn : Nat → Wd} {N : AM}
theorem scl_1 {m : Nat} (h : 0 < m) : scl m [.ref 0] := fun w hw => by rw [List.mem_singleton.mp hw]; exact h
theorem scl_i {m : Nat} {x : Int32} {a : List Value} (h : scl m a) : scl m (.int x :: a) := scl.cons trivial h
theorem scl_r {m : Nat} {a : List Value} (h0 : 0 < m) (h : scl m a) : scl m (.ref 0 :: a) := scl.cons h0 h
theorem scl_n {m : Nat} : scl m [] := fun _ hw => nomatch hw
/-- what a helper answers: the call's answer, or the number of what it threw -/
def hvl (k v a b : Int32) : Int32 := if k = 0 then v else if k = 1 then a else b
set_option maxRecDepth 20000 in
theorem h_plates {x1 x2 k v : Int32} {P : AM → Prop} (hP : P5 P) (hM : mcl (p5 sc s S R L tw f fc len B c (wins wn))) (h : OC tX9_plate [.ref 0, .int x1, .int x2] (p5 sc s S R L tw f fc len B c (wins wn)) P IAE IAE k v) (hk : k = 0 ∨ k = 1) (hno : ∀ E M, ¬ Q (.inr E) M)
    (hQ : ∀ M1, P M1 → mcl M1 → Q (.inl (some (.int (hvl k v (-2000002) (-2000002))))) (M1 ++ N)) : TrH tL_plates hhL_plates 1 6 [.ref 0, .int x1, .int x2] (p5 sc s S R L tw f fc len B c (wins wn) ++ N) Q := by
  refine TrH.of (opT := opTL_plates) sL_plates List.mem_cons_self sTL_plates hno (by decide +kernel) (Nat.le_of_ble_eq_true rfl) fun X hX hT => ?_
  have pE : ∀ sc s S R L tw f fc len B c wn, P (p5 sc s S R L tw f fc len B c (wins wn)) → mcl (p5 sc s S R L tw f fc len B c (wins wn)) → k = 0 → X 6 [some (.ref 0), some (.int x1), some (.int x2), none] [.int v] (p5 sc s S R L tw f fc len B c (wins wn) ++ N) (0, 0) := by
    intro sc s S R L tw f fc len B c wn hp hc hk0
    refine go hX (fun _ => none) 20 ?_
    have hq := hQ _ hp hc
    unfold hvl at hq
    rw [if_pos hk0] at hq
    exact hq
  refine go hX (fun pc => if pc = 3 then some 4 else none) 20 ?_
  refine hT _ _ _ _ ?_
  refine OC.pre h rfl hM (scl_r (by decide) (scl_i (scl_i (scl_n)))) hP.sz (fun M1 hp hc => ?_)
  obtain ⟨sc1, s1, S1, R1, L1, tw1, f1, fc1, len1, B1, c1, wn1, rfl⟩ := hP M1 hp
  rcases hk with rfl | rfl
  · exact pE _ _ _ _ _ _ _ _ _ _ _ _ hp hc rfl
  · exact ⟨(-2000002), by decide +kernel, hQ _ hp hc⟩
set_option maxRecDepth 20000 in
theorem h_requests {x1 x2 x3 k v : Int32} {P : AM → Prop} (hP : P5 P) (hM : mcl (p5 sc s S R L tw f fc len B c (wins wn))) (h : OC tX9_request [.ref 0, .int x1, .int x2, .int x3] (p5 sc s S R L tw f fc len B c (wins wn)) P IAE ISE k v) (hk : k = 0 ∨ k = 1 ∨ k = 2) (hno : ∀ E M, ¬ Q (.inr E) M)
    (hQ : ∀ M1, P M1 → mcl M1 → Q (.inl (some (.int (hvl k v (-2000002) (-2000003))))) (M1 ++ N)) : TrH tL_requests hhL_requests 1 6 [.ref 0, .int x1, .int x2, .int x3] (p5 sc s S R L tw f fc len B c (wins wn) ++ N) Q := by
  refine TrH.of (opT := opTL_requests) sL_requests List.mem_cons_self sTL_requests hno (by decide +kernel) (Nat.le_of_ble_eq_true rfl) fun X hX hT => ?_
  have pE : ∀ sc s S R L tw f fc len B c wn, P (p5 sc s S R L tw f fc len B c (wins wn)) → mcl (p5 sc s S R L tw f fc len B c (wins wn)) → k = 0 → X 7 [some (.ref 0), some (.int x1), some (.int x2), some (.int x3), none] [.int v] (p5 sc s S R L tw f fc len B c (wins wn) ++ N) (0, 0) := by
    intro sc s S R L tw f fc len B c wn hp hc hk0
    refine go hX (fun _ => none) 20 ?_
    have hq := hQ _ hp hc
    unfold hvl at hq
    rw [if_pos hk0] at hq
    exact hq
  refine go hX (fun pc => if pc = 4 then some 5 else none) 20 ?_
  refine hT _ _ _ _ ?_
  refine OC.pre h rfl hM (scl_r (by decide) (scl_i (scl_i (scl_i (scl_n))))) hP.sz (fun M1 hp hc => ?_)
  obtain ⟨sc1, s1, S1, R1, L1, tw1, f1, fc1, len1, B1, c1, wn1, rfl⟩ := hP M1 hp
  rcases hk with rfl | rfl | rfl
  · exact pE _ _ _ _ _ _ _ _ _ _ _ _ hp hc rfl
  · exact ⟨(-2000002), by decide +kernel, hQ _ hp hc⟩
  · exact ⟨(-2000003), by decide +kernel, hQ _ hp hc⟩
set_option maxRecDepth 20000 in
theorem h_cancels {x1 k v : Int32} {P : AM → Prop} (hP : P5 P) (hM : mcl (p5 sc s S R L tw f fc len B c (wins wn))) (h : OC tX9_cancel [.ref 0, .int x1] (p5 sc s S R L tw f fc len B c (wins wn)) P IOE IOE k v) (hk : k = 0 ∨ k = 1) (hno : ∀ E M, ¬ Q (.inr E) M)
    (hQ : ∀ M1, P M1 → mcl M1 → Q (.inl (some (.int (hvl k v (-2000001) (-2000001))))) (M1 ++ N)) : TrH tL_cancels hhL_cancels 1 6 [.ref 0, .int x1] (p5 sc s S R L tw f fc len B c (wins wn) ++ N) Q := by
  refine TrH.of (opT := opTL_cancels) sL_cancels List.mem_cons_self sTL_cancels hno (by decide +kernel) (Nat.le_of_ble_eq_true rfl) fun X hX hT => ?_
  have pE : ∀ sc s S R L tw f fc len B c wn, P (p5 sc s S R L tw f fc len B c (wins wn)) → mcl (p5 sc s S R L tw f fc len B c (wins wn)) → k = 0 → X 5 [some (.ref 0), some (.int x1), none] [.int v] (p5 sc s S R L tw f fc len B c (wins wn) ++ N) (0, 0) := by
    intro sc s S R L tw f fc len B c wn hp hc hk0
    refine go hX (fun _ => none) 20 ?_
    have hq := hQ _ hp hc
    unfold hvl at hq
    rw [if_pos hk0] at hq
    exact hq
  refine go hX (fun pc => if pc = 2 then some 3 else none) 20 ?_
  refine hT _ _ _ _ ?_
  refine OC.pre h rfl hM (scl_r (by decide) (scl_i (scl_n))) hP.sz (fun M1 hp hc => ?_)
  obtain ⟨sc1, s1, S1, R1, L1, tw1, f1, fc1, len1, B1, c1, wn1, rfl⟩ := hP M1 hp
  rcases hk with rfl | rfl
  · exact pE _ _ _ _ _ _ _ _ _ _ _ _ hp hc rfl
  · exact ⟨(-2000001), by decide +kernel, hQ _ hp hc⟩
set_option maxRecDepth 20000 in
theorem h_sets {x1 x2 k v : Int32} {P : AM → Prop} (hP : P5 P) (hM : mcl (p5 sc s S R L tw f fc len B c (wins wn))) (h : OC tX9_set [.ref 0, .int x1, .int x2] (p5 sc s S R L tw f fc len B c (wins wn)) P IAE IAE k v) (hk : k = 0 ∨ k = 1) (hno : ∀ E M, ¬ Q (.inr E) M)
    (hQ : ∀ M1, P M1 → mcl M1 → Q (.inl (some (.int (hvl k v (-2000002) (-2000002))))) (M1 ++ N)) : TrH tL_sets hhL_sets 1 6 [.ref 0, .int x1, .int x2] (p5 sc s S R L tw f fc len B c (wins wn) ++ N) Q := by
  refine TrH.of (opT := opTL_sets) sL_sets List.mem_cons_self sTL_sets hno (by decide +kernel) (Nat.le_of_ble_eq_true rfl) fun X hX hT => ?_
  have pE : ∀ sc s S R L tw f fc len B c wn, P (p5 sc s S R L tw f fc len B c (wins wn)) → mcl (p5 sc s S R L tw f fc len B c (wins wn)) → k = 0 → X 6 [some (.ref 0), some (.int x1), some (.int x2), none] [.int v] (p5 sc s S R L tw f fc len B c (wins wn) ++ N) (0, 0) := by
    intro sc s S R L tw f fc len B c wn hp hc hk0
    refine go hX (fun _ => none) 20 ?_
    have hq := hQ _ hp hc
    unfold hvl at hq
    rw [if_pos hk0] at hq
    exact hq
  refine go hX (fun pc => if pc = 3 then some 4 else none) 20 ?_
  refine hT _ _ _ _ ?_
  refine OC.pre h rfl hM (scl_r (by decide) (scl_i (scl_i (scl_n)))) hP.sz (fun M1 hp hc => ?_)
  obtain ⟨sc1, s1, S1, R1, L1, tw1, f1, fc1, len1, B1, c1, wn1, rfl⟩ := hP M1 hp
  rcases hk with rfl | rfl
  · exact pE _ _ _ _ _ _ _ _ _ _ _ _ hp hc rfl
  · exact ⟨(-2000002), by decide +kernel, hQ _ hp hc⟩
set_option maxRecDepth 20000 in
theorem h_passes {x1 k v : Int32} {P : AM → Prop} (hP : P5 P) (hM : mcl (p5 sc s S R L tw f fc len B c (wins wn))) (h : OC tX9_pass [.ref 0, .int x1] (p5 sc s S R L tw f fc len B c (wins wn)) P IAE ISE k v) (hk : k = 0 ∨ k = 1 ∨ k = 2) (hno : ∀ E M, ¬ Q (.inr E) M)
    (hQ : ∀ M1, P M1 → mcl M1 → Q (.inl (some (.int (hvl k v (-2000002) (-2000003))))) (M1 ++ N)) : TrH tL_passes hhL_passes 1 6 [.ref 0, .int x1] (p5 sc s S R L tw f fc len B c (wins wn) ++ N) Q := by
  refine TrH.of (opT := opTL_passes) sL_passes List.mem_cons_self sTL_passes hno (by decide +kernel) (Nat.le_of_ble_eq_true rfl) fun X hX hT => ?_
  have pE : ∀ sc s S R L tw f fc len B c wn, P (p5 sc s S R L tw f fc len B c (wins wn)) → mcl (p5 sc s S R L tw f fc len B c (wins wn)) → k = 0 → X 5 [some (.ref 0), some (.int x1), none] [.int v] (p5 sc s S R L tw f fc len B c (wins wn) ++ N) (0, 0) := by
    intro sc s S R L tw f fc len B c wn hp hc hk0
    refine go hX (fun _ => none) 20 ?_
    have hq := hQ _ hp hc
    unfold hvl at hq
    rw [if_pos hk0] at hq
    exact hq
  refine go hX (fun pc => if pc = 2 then some 3 else none) 20 ?_
  refine hT _ _ _ _ ?_
  refine OC.pre h rfl hM (scl_r (by decide) (scl_i (scl_n))) hP.sz (fun M1 hp hc => ?_)
  obtain ⟨sc1, s1, S1, R1, L1, tw1, f1, fc1, len1, B1, c1, wn1, rfl⟩ := hP M1 hp
  rcases hk with rfl | rfl | rfl
  · exact pE _ _ _ _ _ _ _ _ _ _ _ _ hp hc rfl
  · exact ⟨(-2000002), by decide +kernel, hQ _ hp hc⟩
  · exact ⟨(-2000003), by decide +kernel, hQ _ hp hc⟩
set_option maxRecDepth 20000 in
theorem h_finishes {k v : Int32} {P : AM → Prop} (hP : P5 P) (hM : mcl (p5 sc s S R L tw f fc len B c (wins wn))) (h : OC tX9_finish [.ref 0] (p5 sc s S R L tw f fc len B c (wins wn)) P ISE ISE k v) (hk : k = 0 ∨ k = 1) (hno : ∀ E M, ¬ Q (.inr E) M)
    (hQ : ∀ M1, P M1 → mcl M1 → Q (.inl (some (.int (hvl k v (-2000003) (-2000003))))) (M1 ++ N)) : TrH tL_finishes hhL_finishes 1 6 [.ref 0] (p5 sc s S R L tw f fc len B c (wins wn) ++ N) Q := by
  refine TrH.of (opT := opTL_finishes) sL_finishes List.mem_cons_self sTL_finishes hno (by decide +kernel) (Nat.le_of_ble_eq_true rfl) fun X hX hT => ?_
  have pE : ∀ sc s S R L tw f fc len B c wn, P (p5 sc s S R L tw f fc len B c (wins wn)) → mcl (p5 sc s S R L tw f fc len B c (wins wn)) → k = 0 → X 4 [some (.ref 0), none] [.int v] (p5 sc s S R L tw f fc len B c (wins wn) ++ N) (0, 0) := by
    intro sc s S R L tw f fc len B c wn hp hc hk0
    refine go hX (fun _ => none) 20 ?_
    have hq := hQ _ hp hc
    unfold hvl at hq
    rw [if_pos hk0] at hq
    exact hq
  refine go hX (fun pc => if pc = 1 then some 2 else none) 20 ?_
  refine hT _ _ _ _ ?_
  refine OC.pre h rfl hM (scl_r (by decide) (scl_n)) hP.sz (fun M1 hp hc => ?_)
  obtain ⟨sc1, s1, S1, R1, L1, tw1, f1, fc1, len1, B1, c1, wn1, rfl⟩ := hP M1 hp
  rcases hk with rfl | rfl
  · exact pE _ _ _ _ _ _ _ _ _ _ _ _ hp hc rfl
  · exact ⟨(-2000003), by decide +kernel, hQ _ hp hc⟩
set_option maxRecDepth 20000 in
theorem h_requestOf {x1 x2 k v : Int32} {P : AM → Prop} (hP : P5 P) (hM : mcl (p5 sc s S R L tw f fc len B c (wins wn))) (h : OC tX9_requestOf [.ref 0, .int x1, .int x2] (p5 sc s S R L tw f fc len B c (wins wn)) P IOE IAE k v) (hk : k = 0 ∨ k = 1 ∨ k = 2) (hno : ∀ E M, ¬ Q (.inr E) M)
    (hQ : ∀ M1, P M1 → mcl M1 → Q (.inl (some (.int (hvl k v (-2000001) (-2000002))))) (M1 ++ N)) : TrH tL_requestOf hhL_requestOf 1 6 [.ref 0, .int x1, .int x2] (p5 sc s S R L tw f fc len B c (wins wn) ++ N) Q := by
  refine TrH.of (opT := opTL_requestOf) sL_requestOf List.mem_cons_self sTL_requestOf hno (by decide +kernel) (Nat.le_of_ble_eq_true rfl) fun X hX hT => ?_
  have pE : ∀ sc s S R L tw f fc len B c wn, P (p5 sc s S R L tw f fc len B c (wins wn)) → mcl (p5 sc s S R L tw f fc len B c (wins wn)) → k = 0 → X 6 [some (.ref 0), some (.int x1), some (.int x2), none] [.int v] (p5 sc s S R L tw f fc len B c (wins wn) ++ N) (0, 0) := by
    intro sc s S R L tw f fc len B c wn hp hc hk0
    refine go hX (fun _ => none) 20 ?_
    have hq := hQ _ hp hc
    unfold hvl at hq
    rw [if_pos hk0] at hq
    exact hq
  refine go hX (fun pc => if pc = 3 then some 4 else none) 20 ?_
  refine hT _ _ _ _ ?_
  refine OC.pre h rfl hM (scl_r (by decide) (scl_i (scl_i (scl_n)))) hP.sz (fun M1 hp hc => ?_)
  obtain ⟨sc1, s1, S1, R1, L1, tw1, f1, fc1, len1, B1, c1, wn1, rfl⟩ := hP M1 hp
  rcases hk with rfl | rfl | rfl
  · exact pE _ _ _ _ _ _ _ _ _ _ _ _ hp hc rfl
  · exact ⟨(-2000001), by decide +kernel, hQ _ hp hc⟩
  · exact ⟨(-2000002), by decide +kernel, hQ _ hp hc⟩
set_option maxRecDepth 20000 in
theorem h_requestAt {x1 k v : Int32} {P : AM → Prop} (hP : P5 P) (hM : mcl (p5 sc s S R L tw f fc len B c (wins wn))) (h : OC tX9_requestAt [.ref 0, .int x1] (p5 sc s S R L tw f fc len B c (wins wn)) P IAE IAE k v) (hk : k = 0 ∨ k = 1) (hno : ∀ E M, ¬ Q (.inr E) M)
    (hQ : ∀ M1, P M1 → mcl M1 → Q (.inl (some (.int (hvl k v (-2000002) (-2000002))))) (M1 ++ N)) : TrH tL_requestAt hhL_requestAt 1 6 [.ref 0, .int x1] (p5 sc s S R L tw f fc len B c (wins wn) ++ N) Q := by
  refine TrH.of (opT := opTL_requestAt) sL_requestAt List.mem_cons_self sTL_requestAt hno (by decide +kernel) (Nat.le_of_ble_eq_true rfl) fun X hX hT => ?_
  have pE : ∀ sc s S R L tw f fc len B c wn, P (p5 sc s S R L tw f fc len B c (wins wn)) → mcl (p5 sc s S R L tw f fc len B c (wins wn)) → k = 0 → X 5 [some (.ref 0), some (.int x1), none] [.int v] (p5 sc s S R L tw f fc len B c (wins wn) ++ N) (0, 0) := by
    intro sc s S R L tw f fc len B c wn hp hc hk0
    refine go hX (fun _ => none) 20 ?_
    have hq := hQ _ hp hc
    unfold hvl at hq
    rw [if_pos hk0] at hq
    exact hq
  refine go hX (fun pc => if pc = 2 then some 3 else none) 20 ?_
  refine hT _ _ _ _ ?_
  refine OC.pre h rfl hM (scl_r (by decide) (scl_i (scl_n))) hP.sz (fun M1 hp hc => ?_)
  obtain ⟨sc1, s1, S1, R1, L1, tw1, f1, fc1, len1, B1, c1, wn1, rfl⟩ := hP M1 hp
  rcases hk with rfl | rfl
  · exact pE _ _ _ _ _ _ _ _ _ _ _ _ hp hc rfl
  · exact ⟨(-2000002), by decide +kernel, hQ _ hp hc⟩
set_option maxRecDepth 20000 in
theorem h_loggedOf {x1 x2 k v : Int32} {P : AM → Prop} (hP : P5 P) (hM : mcl (p5 sc s S R L tw f fc len B c (wins wn))) (h : OC tX9_logged [.ref 0, .int x1, .int x2] (p5 sc s S R L tw f fc len B c (wins wn)) P IAE IAE k v) (hk : k = 0 ∨ k = 1) (hno : ∀ E M, ¬ Q (.inr E) M)
    (hQ : ∀ M1, P M1 → mcl M1 → Q (.inl (some (.int (hvl k v (-2000002) (-2000002))))) (M1 ++ N)) : TrH tL_loggedOf hhL_loggedOf 1 6 [.ref 0, .int x1, .int x2] (p5 sc s S R L tw f fc len B c (wins wn) ++ N) Q := by
  refine TrH.of (opT := opTL_loggedOf) sL_loggedOf List.mem_cons_self sTL_loggedOf hno (by decide +kernel) (Nat.le_of_ble_eq_true rfl) fun X hX hT => ?_
  have pE : ∀ sc s S R L tw f fc len B c wn, P (p5 sc s S R L tw f fc len B c (wins wn)) → mcl (p5 sc s S R L tw f fc len B c (wins wn)) → k = 0 → X 6 [some (.ref 0), some (.int x1), some (.int x2), none] [.int v] (p5 sc s S R L tw f fc len B c (wins wn) ++ N) (0, 0) := by
    intro sc s S R L tw f fc len B c wn hp hc hk0
    refine go hX (fun _ => none) 20 ?_
    have hq := hQ _ hp hc
    unfold hvl at hq
    rw [if_pos hk0] at hq
    exact hq
  refine go hX (fun pc => if pc = 3 then some 4 else none) 20 ?_
  refine hT _ _ _ _ ?_
  refine OC.pre h rfl hM (scl_r (by decide) (scl_i (scl_i (scl_n)))) hP.sz (fun M1 hp hc => ?_)
  obtain ⟨sc1, s1, S1, R1, L1, tw1, f1, fc1, len1, B1, c1, wn1, rfl⟩ := hP M1 hp
  rcases hk with rfl | rfl
  · exact pE _ _ _ _ _ _ _ _ _ _ _ _ hp hc rfl
  · exact ⟨(-2000002), by decide +kernel, hQ _ hp hc⟩
set_option maxRecDepth 20000 in
theorem h_armOf {x1 k v : Int32} {P : AM → Prop} (hP : P5 P) (hM : mcl (p5 sc s S R L tw f fc len B c (wins wn))) (h : OC tX9_arm [.ref 0, .int x1] (p5 sc s S R L tw f fc len B c (wins wn)) P IAE IAE k v) (hk : k = 0 ∨ k = 1) (hno : ∀ E M, ¬ Q (.inr E) M)
    (hQ : ∀ M1, P M1 → mcl M1 → Q (.inl (some (.int (hvl k v (-2000002) (-2000002))))) (M1 ++ N)) : TrH tL_armOf hhL_armOf 1 6 [.ref 0, .int x1] (p5 sc s S R L tw f fc len B c (wins wn) ++ N) Q := by
  refine TrH.of (opT := opTL_armOf) sL_armOf List.mem_cons_self sTL_armOf hno (by decide +kernel) (Nat.le_of_ble_eq_true rfl) fun X hX hT => ?_
  have pE : ∀ sc s S R L tw f fc len B c wn, P (p5 sc s S R L tw f fc len B c (wins wn)) → mcl (p5 sc s S R L tw f fc len B c (wins wn)) → k = 0 → X 5 [some (.ref 0), some (.int x1), none] [.int v] (p5 sc s S R L tw f fc len B c (wins wn) ++ N) (0, 0) := by
    intro sc s S R L tw f fc len B c wn hp hc hk0
    refine go hX (fun _ => none) 20 ?_
    have hq := hQ _ hp hc
    unfold hvl at hq
    rw [if_pos hk0] at hq
    exact hq
  refine go hX (fun pc => if pc = 2 then some 3 else none) 20 ?_
  refine hT _ _ _ _ ?_
  refine OC.pre h rfl hM (scl_r (by decide) (scl_i (scl_n))) hP.sz (fun M1 hp hc => ?_)
  obtain ⟨sc1, s1, S1, R1, L1, tw1, f1, fc1, len1, B1, c1, wn1, rfl⟩ := hP M1 hp
  rcases hk with rfl | rfl
  · exact pE _ _ _ _ _ _ _ _ _ _ _ _ hp hc rfl
  · exact ⟨(-2000002), by decide +kernel, hQ _ hp hc⟩
set_option maxRecDepth 20000 in
theorem h_wholeOf {x1 k v : Int32} {P : AM → Prop} (hP : P5 P) (hM : mcl (p5 sc s S R L tw f fc len B c (wins wn))) (h : OC tX9_whole [.ref 0, .int x1] (p5 sc s S R L tw f fc len B c (wins wn)) P IAE IAE k v) (hk : k = 0 ∨ k = 1) (hno : ∀ E M, ¬ Q (.inr E) M)
    (hQ : ∀ M1, P M1 → mcl M1 → Q (.inl (some (.int (hvl k v (-2000002) (-2000002))))) (M1 ++ N)) : TrH tL_wholeOf hhL_wholeOf 1 6 [.ref 0, .int x1] (p5 sc s S R L tw f fc len B c (wins wn) ++ N) Q := by
  refine TrH.of (opT := opTL_wholeOf) sL_wholeOf List.mem_cons_self sTL_wholeOf hno (by decide +kernel) (Nat.le_of_ble_eq_true rfl) fun X hX hT => ?_
  have pE : ∀ sc s S R L tw f fc len B c wn, P (p5 sc s S R L tw f fc len B c (wins wn)) → mcl (p5 sc s S R L tw f fc len B c (wins wn)) → k = 0 → X 5 [some (.ref 0), some (.int x1), none] [.int v] (p5 sc s S R L tw f fc len B c (wins wn) ++ N) (0, 0) := by
    intro sc s S R L tw f fc len B c wn hp hc hk0
    refine go hX (fun _ => none) 20 ?_
    have hq := hQ _ hp hc
    unfold hvl at hq
    rw [if_pos hk0] at hq
    exact hq
  refine go hX (fun pc => if pc = 2 then some 3 else none) 20 ?_
  refine hT _ _ _ _ ?_
  refine OC.pre h rfl hM (scl_r (by decide) (scl_i (scl_n))) hP.sz (fun M1 hp hc => ?_)
  obtain ⟨sc1, s1, S1, R1, L1, tw1, f1, fc1, len1, B1, c1, wn1, rfl⟩ := hP M1 hp
  rcases hk with rfl | rfl
  · exact pE _ _ _ _ _ _ _ _ _ _ _ _ hp hc rfl
  · exact ⟨(-2000002), by decide +kernel, hQ _ hp hc⟩
