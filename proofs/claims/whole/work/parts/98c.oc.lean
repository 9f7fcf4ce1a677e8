/-! ===== all calls of the object, from CW to CW ===== -/
variable {T n : Nat} {a : Kp} {b b1 : Nat → Int32} {M : AM}
def OT (d : TrD) (ar : List Value) (M : AM) (P : AM → Prop) (o : AR) : Prop := ∀ (mc ms : Nat) (Q : AQ), (∀ M1, P M1 → Q o M1) → Tr d mc ms ar M Q
theorem CW.congr (h : CW T a n b M) (e : ∀ k, k < n → b k = b1 k) : CW T a n b1 M := by
  obtain ⟨S, R, L, tw, f, fc, B, c, wn, rfl, h1, h2, h3, h4, h5⟩ := h
  exact ⟨S, R, L, tw, f, fc, B, c, wn, rfl, h1, h2, h3, h4, h5.1, h5.2.1, fun k hk => (h5.2.2 k hk).trans (e k hk)⟩
abbrev K01 (k : Int32) : Prop := k = 0 ∨ k = 1
abbrev K02 (k : Int32) : Prop := k = 0 ∨ k = 1 ∨ k = 2
theorem k_plate {sv : Bool} {t c : Int32} : K01 (plateA sv t c a).1 := by
  unfold plateA; split
  · exact Or.inl rfl
  · exact Or.inr rfl
theorem k_request {sv : Bool} {t s d : Int32} : K02 (requestA sv t s d a).1 := by
  unfold requestA; split
  · split
    · exact Or.inr (Or.inr rfl)
    · exact Or.inl rfl
  · exact Or.inr (Or.inl rfl)
theorem k_cancel {sv : Bool} {x : Int32} : K01 (cancelA sv x a).1 := by
  unfold cancelA; split
  · exact Or.inr rfl
  · exact Or.inl rfl
theorem k_set {sv : Bool} {w v : Int32} : K01 (setA sv w v a).1 := by
  unfold setA; split
  · exact Or.inl rfl
  · exact Or.inr rfl
theorem k_pass {sv : Bool} {t : Int32} : K02 (passA sv t a).1 := by
  unfold passA; split
  · split
    · exact Or.inl rfl
    · exact Or.inr (Or.inr rfl)
  · exact Or.inr (Or.inl rfl)
theorem k_finish {sv : Bool} : K01 (finishA sv a).1 := by
  unfold finishA; split
  · exact Or.inl rfl
  · exact Or.inr rfl
theorem k_undo : K01 (undoA a).1 := by
  unfold undoA; split
  · exact Or.inr rfl
  · exact Or.inl rfl
theorem k_type {v : Int32} {tx : List Int32} : K02 (typeA v tx).1 := by
  unfold typeA; split
  · split
    · exact Or.inr (Or.inr rfl)
    · exact Or.inl rfl
  · exact Or.inr (Or.inl rfl)
theorem k_requestOf {x w : Int32} {s : Sg} : K02 (requestOfA x w s).1 := by
  unfold requestOfA; split
  · exact Or.inr (Or.inl rfl)
  · split
    · exact Or.inl rfl
    · exact Or.inr (Or.inr rfl)
theorem k_requestAt {p : Int32} {s : Sg} : K01 (requestAtA p s).1 := by
  unfold requestAtA; split
  · exact Or.inr rfl
  · exact Or.inl rfl
theorem k_logged {x w : Int32} {s : Sg} : K01 (loggedA x w s).1 := by
  unfold loggedA; split
  · exact Or.inr rfl
  · split
    · exact Or.inl rfl
    · exact Or.inr rfl
theorem k_arm {w : Int32} {s : Sg} : K01 (armA w s).1 := by
  unfold armA; split
  · exact Or.inl rfl
  · exact Or.inr rfl
theorem k_whole {w t : Int32} {s : Sg} : K01 (wholeA w t s).1 := by
  unfold wholeA; split
  · exact Or.inl rfl
  · exact Or.inr rfl
theorem k_target {w : Int32} {s : Sg} : K01 (targetA w s).1 := by
  unfold targetA; split
  · exact Or.inl rfl
  · exact Or.inr rfl
theorem k_readIn {x : Int32} {s : Sg} : K01 (readInA x s).1 := by
  unfold readInA; split
  · exact Or.inr rfl
  · exact Or.inl rfl
theorem k_finishBy {w j : Int32} {s : Sg} : K01 (finishByA w j s).1 := by
  unfold finishByA; split
  · exact Or.inl rfl
  · exact Or.inr rfl
theorem k_heatIn {t : Int32} {s : Sg} : K01 (heatInA t s).1 := by
  unfold heatInA; split
  · exact Or.inl rfl
  · exact Or.inr rfl
theorem k_reason {x : Int32} {s : Sg} : K01 (reasonA x s).1 := by
  unfold reasonA; split
  · exact Or.inr rfl
  · exact Or.inl rfl
theorem oc_plate (hA : AInv T a) (hW : CW T a n b M) {t c1 : Int32} : OC tX9_plate [.ref 0, .int t, .int c1] M (CW T (plateA true t c1 a).2.2 n b) IAE IAE (plateA true t c1 a).1 (plateA true t c1 a).2.1 := fun _ hQ => p_plate hA hW hQ
theorem oc_request (hA : AInv T a) (hW : CW T a n b M) {t s d : Int32} : OC tX9_request [.ref 0, .int t, .int s, .int d] M (CW (T + 1) (requestA true t s d a).2.2 n b) IAE ISE (requestA true t s d a).1 (requestA true t s d a).2.1 := fun _ hQ => p_request hA hW hQ
theorem oc_cancel (hA : AInv T a) (hW : CW T a n b M) {x : Int32} : OC tX9_cancel [.ref 0, .int x] M (CW T (cancelA true x a).2.2 n b) IOE IOE (cancelA true x a).1 (cancelA true x a).2.1 := fun _ hQ => p_cancel hA hW hQ
theorem oc_set (hA : AInv T a) (hW : CW T a n b M) {w v : Int32} : OC tX9_set [.ref 0, .int w, .int v] M (CW T (setA true w v a).2.2 n b) IAE IAE (setA true w v a).1 (setA true w v a).2.1 := fun _ hQ => p_set hA hW hQ
theorem oc_requestOf (hA : AInv T a) (hW : CW T a n b M) {x w : Int32} : OC tX9_requestOf [.ref 0, .int x, .int w] M (CW T a n b) IOE IAE (requestOfA x w a.1).1 (requestOfA x w a.1).2 := fun _ hQ => by
  have hW0 := hW
  obtain ⟨S, R, L, tw, f, fc, B, c, wn, rfl, hC, hl, hV, hS, hT⟩ := hW
  exact p_requestOf hA.1 hC (hQ _ hW0)
theorem oc_requestAt (hA : AInv T a) (hW : CW T a n b M) {p : Int32} : OC tX9_requestAt [.ref 0, .int p] M (CW T a n b) IAE IAE (requestAtA p a.1).1 (requestAtA p a.1).2 := fun _ hQ => by
  have hW0 := hW
  obtain ⟨S, R, L, tw, f, fc, B, c, wn, rfl, hC, hl, hV, hS, hT⟩ := hW
  exact p_requestAt hA.1 hC (hQ _ hW0)
theorem oc_arm (hA : AInv T a) (hW : CW T a n b M) {w : Int32} : OC tX9_arm [.ref 0, .int w] M (CW T a n b) IAE IAE (armA w a.1).1 (armA w a.1).2 := fun _ hQ => by
  have hW0 := hW
  obtain ⟨S, R, L, tw, f, fc, B, c, wn, rfl, hC, hl, hV, hS, hT⟩ := hW
  exact p_arm hA.1 (hQ _ hW0)
theorem oc_target (hA : AInv T a) (hW : CW T a n b M) {w : Int32} : OC tX9_target [.ref 0, .int w] M (CW T a n b) IAE IAE (targetA w a.1).1 (targetA w a.1).2 := fun _ hQ => by
  have hW0 := hW
  obtain ⟨S, R, L, tw, f, fc, B, c, wn, rfl, hC, hl, hV, hS, hT⟩ := hW
  exact p_target hA.1 hC (hQ _ hW0)
theorem oc_reason (hA : AInv T a) (hW : CW T a n b M) {x : Int32} : OC tX9_reason [.ref 0, .int x] M (CW T a n b) IOE IOE (reasonA x a.1).1 (reasonA x a.1).2 := fun _ hQ => by
  have hW0 := hW
  obtain ⟨S, R, L, tw, f, fc, B, c, wn, rfl, hC, hl, hV, hS, hT⟩ := hW
  exact p_reason hA.1 hC (hQ _ hW0)
theorem oc_whole (hA : AInv T a) (hW : CW T a n b M) {w : Int32} : OC tX9_whole [.ref 0, .int w] M (CW T a n b) IAE IAE (wholeA w (nI n) a.1).1 (wholeA w (nI n) a.1).2 := fun _ hQ => by
  have hW0 := hW
  obtain ⟨S, R, L, tw, f, fc, B, c, wn, rfl, hC, hl, hV, hS, hT⟩ := hW
  exact p_whole hC (hQ _ hW0)
theorem oc_undo (hA : AInv T a) (hW : CW T a n b M) : OC tX9_undo [.ref 0] M (CW T (undoA a).2.2 n b) ISE ISE (undoA a).1 (undoA a).2.1 := fun _ hQ => by
  have hW0 := hW
  obtain ⟨S, R, L, tw, f, fc, B, c, wn, rfl, hC, hl, hV, hS, hT⟩ := hW
  unfold undoA at hQ
  refine p_undo hA rfl hl hV (fun h0 => ?_) (fun x S2 R2 L2 hx hC2 => ?_)
  · rw [if_pos h0] at hQ
    have := hQ _ hW0
    rw [exO_1] at this
    exact this
  · have hne : ¬ a.2.length = 0 := fun z => by rw [List.getElem?_eq_none (by omega)] at hx; cases hx
    rw [if_neg hne] at hQ
    have e1 : a.2.getD (a.2.length - 1) initS = x := by rw [List.getD_eq_getElem?_getD, hx]; rfl
    have e2 : (a.2.take (a.2.length - 1)).length = a.2.length - 1 := by rw [List.length_take]; omega
    have hV2 : SvR T f wn (a.2.take (a.2.length - 1)) := by
      obtain ⟨r, h1, h2, h3⟩ := hV
      refine ⟨r, h1, h2, fun j y hj => h3 j y ?_⟩
      rw [List.getElem?_take] at hj
      split at hj
      · exact hj
      · cases hj
    have hq := hQ _ (mkCW (n := n) (tw := tw) (fc := fc) (ps := a.2.take (a.2.length - 1)) (e1 ▸ hC2) (by rw [e2]; omega) hV2 hS hT)
    dsimp only at hq
    rw [e2, exO_0, e1] at hq
    exact hq
theorem ot_widest (hA : AInv T a) (hW : CW T a n b M) : OT tX9_widest [.ref 0] M (CW T a n b) (.inl (some (.int (spreadV (fun k => (rqF a.1.2.1 k).2.1) a.1.2.1.length)))) := fun _ _ _ hQ => by
  have hW0 := hW
  obtain ⟨S, R, L, tw, f, fc, B, c, wn, rfl, hC, hl, hV, hS, hT⟩ := hW
  exact p_widest hA.1 hC (hQ _ hW0)
theorem ot_clear (hW : CW T a n b M) : OT tX9_clearCommands [.ref 0] M (CW T a 0 b) (.inl (some (.int (nI n)))) := fun _ _ _ hQ => by
  obtain ⟨S, R, L, tw, f, fc, B, c, wn, rfl, hC, hl, hV, hS, hT⟩ := hW
  exact p_clear (hQ _ ⟨S, R, L, tw, f, fc, B, c, wn, rfl, hC, hl, hV, hS, rfl, by omega, fun k hk => absurd hk (Nat.not_lt_zero k)⟩)
theorem oc_type (hW : CW T a n b M) {v : Int32} {tx : List Int32} (hn : n = tx.length) (hb : ∀ k, k < n → b k = tx.getD k 0) : OC tX9_type [.ref 0, .int v] M (CW T a (typeA v tx).2.2.length (fun k => (typeA v tx).2.2.getD k 0)) IAE ISE (typeA v tx).1 (typeA v tx).2.1 := fun Q hQ => by
  have hW0 : CW T a n (fun k => tx.getD k 0) M := hW.congr hb
  obtain ⟨S, R, L, tw, f, fc, B, c, wn, rfl, hC, hl, hV, hS, hT⟩ := hW
  subst hn
  have hTB : TB (nI tx.length) B (fun k => tx.getD k 0) tx.length := ⟨rfl, hT.2.1, fun k hk => (hT.2.2 k hk).trans (hb k hk)⟩
  refine p_type hT rfl (fun B1 h1 h2 => ?_)
  unfold typeA at hQ
  by_cases hv : inI v 0 127 = true
  · rw [if_pos hv] at hQ
    rw [if_pos hv, if_pos hv, if_pos hv]
    by_cases h150 : tx.length = 150
    · rw [if_pos h150] at hQ
      rw [if_pos h150, if_pos h150, if_pos h150, h2 (Or.inr h150)]
      exact hQ _ hW0
    · rw [if_neg h150] at hQ
      rw [if_neg h150, if_neg h150, if_neg h150, h1 hv h150, nI_1]
      have hq := hQ _ ⟨S, R, L, tw, f, fc, upd B tx.length v, c, wn, rfl, hC, hl, hV, hS, rfl, by rw [List.length_append, List.length_singleton]; have := hT.2.1; omega, fun k hk => ?_⟩
      · dsimp only at hq
        rw [List.length_append, List.length_singleton] at hq
        exact hq
      · rw [List.length_append, List.length_singleton] at hk
        show _ = (tx ++ [v]).getD k 0
        rw [List.getD_eq_getElem?_getD]
        by_cases hkl : k < tx.length
        · rw [List.getElem?_append_left hkl, upd_o (by omega)]
          exact (hT.2.2 k hkl).trans ((hb k hkl).trans (List.getD_eq_getElem?_getD))
        · have hke : k = tx.length := by omega
          rw [hke, List.getElem?_append_right (Nat.le_refl _), Nat.sub_self, upd_i]
          rfl
  · have hv' : inI v 0 127 = false := by cases h : inI v 0 127 with
      | true => exact absurd h hv
      | false => rfl
    rw [if_neg hv] at hQ
    rw [if_neg hv, if_neg hv, if_neg hv, h2 (Or.inl hv')]
    exact hQ _ hW0
theorem oc_pass (hA : AInv T a) (hTT : T + 12 < 2 ^ 31) (hW : CW T a n b M) {t : Int32} : OC tX9_pass [.ref 0, .int t] M (CW T (passA true t a).2.2 n b) IAE ISE (passA true t a).1 (passA true t a).2.1 := fun _ hQ => p_pass hA hTT hW hQ
theorem oc_finish (hA : AInv T a) (hTT : T + 12 < 2 ^ 31) (hW : CW T a n b M) : OC tX9_finish [.ref 0] M (CW T (finishA true a).2.2 n b) ISE ISE (finishA true a).1 (finishA true a).2.1 := fun _ hQ => p_finish hA hTT hW hQ
theorem oc_logged (hA : AInv T a) (hTT : T + 12 < 2 ^ 31) (hW : CW T a n b M) {x w : Int32} : OC tX9_logged [.ref 0, .int x, .int w] M (CW T a n b) IAE IAE (loggedA x w a.1).1 (loggedA x w a.1).2 := fun _ hQ => by
  have hW0 := hW
  obtain ⟨S, R, L, tw, f, fc, B, c, wn, rfl, hC, hl, hV, hS, hT⟩ := hW
  exact p_logged hA.1 hC (by omega) (hQ _ hW0)
theorem oc_readIn (hA : AInv T a) (hTT : T + 12 < 2 ^ 31) (hW : CW T a n b M) {x : Int32} : OC tX9_readIn [.ref 0, .int x] M (CW T a n b) IOE IOE (readInA x a.1).1 (readInA x a.1).2 := fun _ hQ => by
  obtain ⟨S, R, L, tw, f, fc, B, c, wn, rfl, hC, hl, hV, hS, hT⟩ := hW
  exact p_readIn hA.1 hTT hC (fun tw1 => hQ _ (mkCW hC hl hV hS hT))
theorem oc_heatIn (hA : AInv T a) (hTT : T + 12 < 2 ^ 31) (hW : CW T a n b M) {t : Int32} : OC tX9_heatIn [.ref 0, .int t] M (CW T a n b) IAE IAE (heatInA t a.1).1 (heatInA t a.1).2 := fun _ hQ => by
  obtain ⟨S, R, L, tw, f, fc, B, c, wn, rfl, hC, hl, hV, hS, hT⟩ := hW
  exact p_heatIn hA.1 hTT hC (fun tw1 => hQ _ (mkCW hC hl hV hS hT))
theorem oc_finishBy (hA : AInv T a) (hTT : T + 12 < 2 ^ 31) (hW : CW T a n b M) {w j : Int32} : OC tX9_finishBy [.ref 0, .int w, .int j] M (CW T a n b) IAE IAE (finishByA w j a.1).1 (finishByA w j a.1).2 := fun _ hQ => by
  obtain ⟨S, R, L, tw, f, fc, B, c, wn, rfl, hC, hl, hV, hS, hT⟩ := hW
  exact p_finishBy hA.1 hTT hC (fun tw1 fc1 => hQ _ (mkCW hC hl hV hS hT))
theorem ot_bestWay (hA : AInv T a) (hTT : T + 12 < 2 ^ 31) (hW : CW T a n b M) : OT tX9_bestWay [.ref 0] M (CW T a n b) (.inl (some (.int (nI (bestM a.1 4))))) := fun _ _ _ hQ => by
  obtain ⟨S, R, L, tw, f, fc, B, c, wn, rfl, hC, hl, hV, hS, hT⟩ := hW
  exact p_bestWay hA.1 hTT hC (fun tw1 fc1 => hQ _ (mkCW hC hl hV hS hT))
theorem ot_digest (hA : AInv T a) (hTT : T + 12 < 2 ^ 31) (hW : CW T a n b M) : OT tX9_digest [.ref 0] M (CW T a n b) (.inl (some (.long (dgA a.1 (nI a.2.length) (nI n))))) := fun _ _ _ hQ => p_digest hA hTT hW hQ
theorem ot_run (hA : AInv T a) (hW : CW T a n b M) (hTn : T + n + 12 < 2 ^ 31) : OT tX9_runCommands [.ref 0] M (CW (T + n) (runA n b a).2 n b) (.inl (some (.int (runA n b a).1))) := fun _ _ _ hQ => p_runCommands hA hTn hW hQ
