/-! ===== all calls of the object, from CW to CW ===== -/
variable {T n : Nat} {a : Kp} {b b1 : Nat → Int32} {M : AM}
abbrev K01 (k : Int32) : Prop := k = 0 ∨ k = 1
abbrev K02 (k : Int32) : Prop := k = 0 ∨ k = 1 ∨ k = 2
theorem k_plate {sv : Bool} {t c : Int32} : K01 (plateA sv t c a).1 := by
  unfold plateA; split
  · exact Or.inl rfl
  · exact Or.inr rfl
theorem k_request {sv : Bool} {t s d : Int32} : K02 (requestA sv t s d a).1 := by
  unfold requestA; split
  · split
    · exact Or.inr (Or.inr rfl)
    · exact Or.inl rfl
  · exact Or.inr (Or.inl rfl)
theorem k_cancel {sv : Bool} {x : Int32} : K01 (cancelA sv x a).1 := by
  unfold cancelA; split
  · exact Or.inr rfl
  · exact Or.inl rfl
theorem k_set {sv : Bool} {w v : Int32} : K01 (setA sv w v a).1 := by
  unfold setA; split
  · exact Or.inl rfl
  · exact Or.inr rfl
theorem k_pass {sv : Bool} {t : Int32} : K02 (passA sv t a).1 := by
  unfold passA; split
  · split
    · exact Or.inl rfl
    · exact Or.inr (Or.inr rfl)
  · exact Or.inr (Or.inl rfl)
theorem k_finish {sv : Bool} : K01 (finishA sv a).1 := by
  unfold finishA; split
  · exact Or.inl rfl
  · exact Or.inr rfl
theorem k_requestOf {x w : Int32} {s : Sg} : K02 (requestOfA x w s).1 := by
  unfold requestOfA; split
  · exact Or.inr (Or.inl rfl)
  · split
    · exact Or.inl rfl
    · exact Or.inr (Or.inr rfl)
theorem k_requestAt {p : Int32} {s : Sg} : K01 (requestAtA p s).1 := by
  unfold requestAtA; split
  · exact Or.inr rfl
  · exact Or.inl rfl
theorem k_logged {x w : Int32} {s : Sg} : K01 (loggedA x w s).1 := by
  unfold loggedA; split
  · exact Or.inr rfl
  · split
    · exact Or.inl rfl
    · exact Or.inr rfl
theorem k_arm {w : Int32} {s : Sg} : K01 (armA w s).1 := by
  unfold armA; split
  · exact Or.inl rfl
  · exact Or.inr rfl
theorem k_whole {w t : Int32} {s : Sg} : K01 (wholeA w t s).1 := by
  unfold wholeA; split
  · exact Or.inl rfl
  · exact Or.inr rfl
theorem oc_plate (hA : AInv T a) (hW : CW T a n b M) {t c1 : Int32} : OC tX9_plate [.ref 0, .int t, .int c1] M (CW T (plateA true t c1 a).2.2 n b) IAE IAE (plateA true t c1 a).1 (plateA true t c1 a).2.1 := fun _ hQ => p_plate hA hW hQ
theorem oc_request (hA : AInv T a) (hW : CW T a n b M) {t s d : Int32} : OC tX9_request [.ref 0, .int t, .int s, .int d] M (CW (T + 1) (requestA true t s d a).2.2 n b) IAE ISE (requestA true t s d a).1 (requestA true t s d a).2.1 := fun _ hQ => p_request hA hW hQ
theorem oc_cancel (hA : AInv T a) (hW : CW T a n b M) {x : Int32} : OC tX9_cancel [.ref 0, .int x] M (CW T (cancelA true x a).2.2 n b) IOE IOE (cancelA true x a).1 (cancelA true x a).2.1 := fun _ hQ => p_cancel hA hW hQ
theorem oc_set (hA : AInv T a) (hW : CW T a n b M) {w v : Int32} : OC tX9_set [.ref 0, .int w, .int v] M (CW T (setA true w v a).2.2 n b) IAE IAE (setA true w v a).1 (setA true w v a).2.1 := fun _ hQ => p_set hA hW hQ
theorem oc_requestOf (hA : AInv T a) (hW : CW T a n b M) {x w : Int32} : OC tX9_requestOf [.ref 0, .int x, .int w] M (CW T a n b) IOE IAE (requestOfA x w a.1).1 (requestOfA x w a.1).2 := fun _ hQ => by
  have hW0 := hW
  obtain ⟨S, R, L, tw, f, fc, B, c, wn, rfl, hC, hl, hV, hS, hT⟩ := hW
  exact p_requestOf hA.1 hC (hQ _ hW0)
theorem oc_requestAt (hA : AInv T a) (hW : CW T a n b M) {p : Int32} : OC tX9_requestAt [.ref 0, .int p] M (CW T a n b) IAE IAE (requestAtA p a.1).1 (requestAtA p a.1).2 := fun _ hQ => by
  have hW0 := hW
  obtain ⟨S, R, L, tw, f, fc, B, c, wn, rfl, hC, hl, hV, hS, hT⟩ := hW
  exact p_requestAt hA.1 hC (hQ _ hW0)
theorem oc_arm (hA : AInv T a) (hW : CW T a n b M) {w : Int32} : OC tX9_arm [.ref 0, .int w] M (CW T a n b) IAE IAE (armA w a.1).1 (armA w a.1).2 := fun _ hQ => by
  have hW0 := hW
  obtain ⟨S, R, L, tw, f, fc, B, c, wn, rfl, hC, hl, hV, hS, hT⟩ := hW
  exact p_arm hA.1 (hQ _ hW0)
theorem oc_whole (hA : AInv T a) (hW : CW T a n b M) {w : Int32} : OC tX9_whole [.ref 0, .int w] M (CW T a n b) IAE IAE (wholeA w (nI n) a.1).1 (wholeA w (nI n) a.1).2 := fun _ hQ => by
  have hW0 := hW
  obtain ⟨S, R, L, tw, f, fc, B, c, wn, rfl, hC, hl, hV, hS, hT⟩ := hW
  exact p_whole hC (hQ _ hW0)
theorem oc_pass (hA : AInv T a) (hTT : T + 12 < 2 ^ 31) (hW : CW T a n b M) {t : Int32} : OC tX9_pass [.ref 0, .int t] M (CW T (passA true t a).2.2 n b) IAE ISE (passA true t a).1 (passA true t a).2.1 := fun _ hQ => p_pass hA hTT hW hQ
theorem oc_finish (hA : AInv T a) (hTT : T + 12 < 2 ^ 31) (hW : CW T a n b M) : OC tX9_finish [.ref 0] M (CW T (finishA true a).2.2 n b) ISE ISE (finishA true a).1 (finishA true a).2.1 := fun _ hQ => p_finish hA hTT hW hQ
theorem oc_logged (hA : AInv T a) (hTT : T + 12 < 2 ^ 31) (hW : CW T a n b M) {x w : Int32} : OC tX9_logged [.ref 0, .int x, .int w] M (CW T a n b) IAE IAE (loggedA x w a.1).1 (loggedA x w a.1).2 := fun _ hQ => by
  have hW0 := hW
  obtain ⟨S, R, L, tw, f, fc, B, c, wn, rfl, hC, hl, hV, hS, hT⟩ := hW
  exact p_logged hA.1 hC (by omega) (hQ _ hW0)
