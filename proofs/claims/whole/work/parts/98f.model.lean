/-! ===== all calls of the reference, over one state ===== -/
variable {Q : AQ} {T : Nat} {a : Kp} {tx : List Int32} {g P H X G f : Nat → Int32} {h : Int64}
def LM (a : Kp) (tx : List Int32) (g P X f : Nat → Int32) : Prop := RS g a.1 ∧ KR P f a.2 ∧ TX X f tx ∧ f 1 = 0 ∧ f 4 = -1
/-- what a call of the reference promises -/
def MP (Q : AQ) (a : Kp) (tx : List Int32) (k : Int32) (o : AR) : Prop := ∀ (g P H X G f : Nat → Int32) (h : Int64), LM a tx g P X f → f 3 = k → Q o (mdW g P H X G f h)
theorem lm_keep {a1 : Kp} {g1 P1 f1 : Nat → Int32} (hL : LM a tx g P X f) (hR : RS g1 a1.1) (hK : KR P1 f1 a1.2) (hf : ∀ k, ¬ k = 0 → ¬ k = 3 → ¬ k = 5 → f1 k = f k) : LM a1 tx g1 P1 X f1 := by
  obtain ⟨-, -, ⟨t1, t2, t3⟩, h1, h4⟩ := hL
  exact ⟨hR, hK, ⟨(hf 2 (by decide) (by decide) (by decide)).trans t1, t2, t3⟩, (hf 1 (by decide) (by decide) (by decide)).trans h1, (hf 4 (by decide) (by decide) (by decide)).trans h4⟩
theorem lm_kq {r : Int32 × Int32 × Kp} (hL : LM a tx g P X f) (hQ : MP Q r.2.2 tx r.1 (.inl (some (.int r.2.1)))) : Kq Q X G f h r := fun _ _ _ _ hR hK hf h3 => hQ _ _ _ _ _ _ _ (lm_keep hL hR hK hf) h3
theorem lm_vq {r : Int32 × Int32} (hL : LM a tx g P X f) (hQ : MP Q a tx r.1 (.inl (some (.int r.2)))) : Vq Q P X G f h a.1 r := fun _ _ _ hR hf h3 => hQ _ _ _ _ _ _ _ (lm_keep hL hR ⟨(hf 0 (by decide) (by decide)).trans hL.2.1.1, hL.2.1.2⟩ (fun k _ k3 k5 => hf k k3 k5)) h3
theorem lm_up {k : Int32} (hL : LM a tx g P X f) : LM a tx g P X (upd f 3 k) := lm_keep hL hL.1 ⟨(upd_o (by decide)).trans hL.2.1.1, hL.2.1.2⟩ (fun j _ j3 _ => upd_o j3)
theorem mc_plate {t c : Int32} (hA : AInv T a) (hL : LM a tx g P X f) (hQ : MP Q (plateA true t c a).2.2 tx (plateA true t c a).1 (.inl (some (.int (plateA true t c a).2.1)))) : Tr tX10_plate 0 0 [.ref 0, .int t, .int c] (mdW g P H X G f h) Q :=
  m_plate hL.1 hA.1 hL.2.1 (by rw [decide_eq_true hL.2.2.2.1]; exact lm_kq hL hQ)
theorem mc_request {t s d : Int32} (hA : AInv T a) (hL : LM a tx g P X f) (hQ : MP Q (requestA true t s d a).2.2 tx (requestA true t s d a).1 (.inl (some (.int (requestA true t s d a).2.1)))) : Tr tX10_request 0 0 [.ref 0, .int t, .int s, .int d] (mdW g P H X G f h) Q :=
  m_request hL.1 hA.1 hL.2.1 (by rw [decide_eq_true hL.2.2.2.1]; exact lm_kq hL hQ)
theorem mc_cancel {x : Int32} (hA : AInv T a) (hL : LM a tx g P X f) (hQ : MP Q (cancelA true x a).2.2 tx (cancelA true x a).1 (.inl (some (.int (cancelA true x a).2.1)))) : Tr tX10_cancel 0 0 [.ref 0, .int x] (mdW g P H X G f h) Q :=
  m_cancel hL.1 hA.1 hL.2.1 (by rw [decide_eq_true hL.2.2.2.1]; exact lm_kq hL hQ)
theorem mc_set {w v : Int32} (hA : AInv T a) (hL : LM a tx g P X f) (hQ : MP Q (setA true w v a).2.2 tx (setA true w v a).1 (.inl (some (.int (setA true w v a).2.1)))) : Tr tX10_set 0 0 [.ref 0, .int w, .int v] (mdW g P H X G f h) Q :=
  m_set hL.1 hA.1 hL.2.1 (by rw [decide_eq_true hL.2.2.2.1]; exact lm_kq hL hQ)
theorem mc_pass {t : Int32} (hA : AInv T a) (hL : LM a tx g P X f) (hQ : MP Q (passA true t a).2.2 tx (passA true t a).1 (.inl (some (.int (passA true t a).2.1)))) : Tr tX10_pass 0 0 [.ref 0, .int t] (mdW g P H X G f h) Q :=
  m_pass hL.1 hA.1 hL.2.1 (by rw [decide_eq_true hL.2.2.2.1]; exact lm_kq hL hQ)
theorem mc_finish (hA : AInv T a) (hL : LM a tx g P X f) (hQ : MP Q (finishA true a).2.2 tx (finishA true a).1 (.inl (some (.int (finishA true a).2.1)))) : Tr tX10_finish 0 0 [.ref 0] (mdW g P H X G f h) Q :=
  m_finish hL.1 hA.1 hL.2.1 (by rw [decide_eq_true hL.2.2.2.1]; exact lm_kq hL hQ)
theorem mc_undo (hA : AInv T a) (hL : LM a tx g P X f) (hQ : MP Q (undoA a).2.2 tx (undoA a).1 (.inl (some (.int (undoA a).2.1)))) : Tr tX10_undo 0 0 [.ref 0] (mdW g P H X G f h) Q :=
  m_undo hL.1 hL.2.1 (lm_kq hL hQ)
theorem mc_requestOf {x w : Int32} (hA : AInv T a) (hL : LM a tx g P X f) (hQ : MP Q a tx (requestOfA x w a.1).1 (.inl (some (.int (requestOfA x w a.1).2)))) : Tr tX10_requestOf 0 0 [.ref 0, .int x, .int w] (mdW g P H X G f h) Q :=
  m_requestOf hL.1 hA.1 (hQ _ _ _ _ _ _ _ (lm_up hL) upd_i)
theorem mc_requestAt {p : Int32} (hA : AInv T a) (hL : LM a tx g P X f) (hQ : MP Q a tx (requestAtA p a.1).1 (.inl (some (.int (requestAtA p a.1).2)))) : Tr tX10_requestAt 0 0 [.ref 0, .int p] (mdW g P H X G f h) Q :=
  m_requestAt hL.1 hA.1.2.1 (hQ _ _ _ _ _ _ _ (lm_up hL) upd_i)
theorem mc_logged {x w : Int32} (hA : AInv T a) (hL : LM a tx g P X f) (hQ : MP Q a tx (loggedA x w a.1).1 (.inl (some (.int (loggedA x w a.1).2)))) : Tr tX10_logged 0 0 [.ref 0, .int x, .int w] (mdW g P H X G f h) Q :=
  m_logged hL.1 (by obtain ⟨-, -, -, -, w, t, h1, h2, h3, h4, h5⟩ := hA.1; rw [h5]; exact Nat.min_le_right _ _) (hQ _ _ _ _ _ _ _ (lm_up hL) upd_i)
theorem mc_arm {w : Int32} (hA : AInv T a) (hL : LM a tx g P X f) (hQ : MP Q a tx (armA w a.1).1 (.inl (some (.int (armA w a.1).2)))) : Tr tX10_arm 0 0 [.ref 0, .int w] (mdW g P H X G f h) Q :=
  m_arm hL.1 hA.1 (hQ _ _ _ _ _ _ _ (lm_up hL) upd_i)
theorem mc_whole {w : Int32} (hA : AInv T a) (hL : LM a tx g P X f) (hQ : MP Q a tx (wholeA w (nI tx.length) a.1).1 (.inl (some (.int (wholeA w (nI tx.length) a.1).2)))) : Tr tX10_whole 0 0 [.ref 0, .int w] (mdW g P H X G f h) Q :=
  m_whole hL.1 (by rw [hL.2.2.1.1]; exact hQ _ _ _ _ _ _ _ (lm_up hL) upd_i)
theorem mc_target {w : Int32} (hA : AInv T a) (hL : LM a tx g P X f) (hQ : MP Q a tx (targetA w a.1).1 (.inl (some (.int (targetA w a.1).2)))) : Tr tX10_target 0 0 [.ref 0, .int w] (mdW g P H X G f h) Q :=
  m_target hL.1 hA.1 (hQ _ _ _ _ _ _ _ (lm_up hL) upd_i)
theorem mc_reason {x : Int32} (hA : AInv T a) (hL : LM a tx g P X f) (hQ : MP Q a tx (reasonA x a.1).1 (.inl (some (.int (reasonA x a.1).2)))) : Tr tX10_reason 0 0 [.ref 0, .int x] (mdW g P H X G f h) Q :=
  m_reason hL.1 hA.1 (hQ _ _ _ _ _ _ _ (lm_up hL) upd_i)
theorem mc_readIn {x : Int32} (hA : AInv T a) (hL : LM a tx g P X f) (hQ : MP Q a tx (readInA x a.1).1 (.inl (some (.int (readInA x a.1).2)))) : Tr tX10_readIn 0 0 [.ref 0, .int x] (mdW g P H X G f h) Q :=
  m_readIn hL.1 hA.1 hL.2.2.2.2 (lm_vq (r := readInA x a.1) hL hQ)
theorem mc_heatIn {t : Int32} (hA : AInv T a) (hL : LM a tx g P X f) (hQ : MP Q a tx (heatInA t a.1).1 (.inl (some (.int (heatInA t a.1).2)))) : Tr tX10_heatIn 0 0 [.ref 0, .int t] (mdW g P H X G f h) Q :=
  m_heatIn hL.1 hA.1 (lm_vq hL hQ)
theorem mc_finishBy {w j : Int32} (hA : AInv T a) (hL : LM a tx g P X f) (hQ : MP Q a tx (finishByA w j a.1).1 (.inl (some (.int (finishByA w j a.1).2)))) : Tr tX10_finishBy 0 0 [.ref 0, .int w, .int j] (mdW g P H X G f h) Q :=
  m_finishBy hL.1 hA.1 (lm_vq hL hQ)
theorem mc_bestWay (hA : AInv T a) (hL : LM a tx g P X f) (hQ : MP Q a tx 0 (.inl (some (.int (nI (bestM a.1 4)))))) : Tr tX10_bestWay 0 0 [.ref 0] (mdW g P H X G f h) Q :=
  m_bestWay hL.1 hA.1 (lm_vq (r := (0, nI (bestM a.1 4))) hL hQ)
theorem mc_widest (hA : AInv T a) (hL : LM a tx g P X f) (hQ : MP Q a tx 0 (.inl (some (.int (spreadV (fun k => (rqF a.1.2.1 k).2.1) a.1.2.1.length))))) : Tr tX10_widest 0 0 [.ref 0] (mdW g P H X G f h) Q :=
  m_widest hL.1 hA.1 (by
    rw [spread_cg (b := fun k => (rqF a.1.2.1 k).2.1) fun i hi => (hL.1.row hi).1]
    exact hQ _ _ _ _ _ _ _ (lm_up hL) upd_i)
theorem mc_type {v : Int32} (hA : AInv T a) (hL : LM a tx g P X f) (hQ : MP Q a (typeA v tx).2.2 (typeA v tx).1 (.inl (some (.int (typeA v tx).2.1)))) : Tr tX10_type 0 0 [.ref 0, .int v] (mdW g P H X G f h) Q :=
  m_type hL.2.2.1 (fun X1 f1 hT hf h3 => hQ _ _ _ _ _ _ _ ⟨hL.1, ⟨(hf 0 (by decide) (by decide)).trans hL.2.1.1, hL.2.1.2⟩, hT, (hf 1 (by decide) (by decide)).trans hL.2.2.2.1, (hf 4 (by decide) (by decide)).trans hL.2.2.2.2⟩ h3)
theorem mc_clear (hA : AInv T a) (hL : LM a tx g P X f) (hQ : MP Q a [] 0 (.inl (some (.int (nI tx.length))))) : Tr tX10_clearCommands 0 0 [.ref 0] (mdW g P H X G f h) Q :=
  m_clear (by
    rw [hL.2.2.1.1]
    refine hQ _ _ _ _ _ _ _ ⟨hL.1, ⟨?_, hL.2.1.2⟩, ⟨upd_i, by decide, fun k hk => absurd hk (Nat.not_lt_zero k)⟩, ?_, ?_⟩ ?_
    · rw [upd_o (by decide), upd_o (by decide)]; exact hL.2.1.1
    · rw [upd_o (by decide), upd_o (by decide)]; exact hL.2.2.2.1
    · rw [upd_o (by decide), upd_o (by decide)]; exact hL.2.2.2.2
    · rw [upd_o (by decide), upd_i])
theorem mc_digest (hA : AInv T a) (hL : LM a tx g P X f) (hQ : MP Q a tx 0 (.inl (some (.long (dgA a.1 (nI a.2.length) (nI tx.length)))))) : Tr tX10_digest 0 0 [.ref 0] (mdW g P H X G f h) Q :=
  m_digest hL.1 hA.1 (fun g1 H1 f1 hR hf h3 => by
    rw [hL.2.1.1, hL.2.2.1.1]
    exact hQ _ _ _ _ _ _ _ (lm_keep hL hR ⟨(hf 0 (by decide) (by decide)).trans hL.2.1.1, hL.2.1.2⟩ (fun k _ k3 k5 => hf k k3 k5)) h3)
theorem mc_run (hA : AInv T a) (hT : T + 200 < 2 ^ 31) (hL : LM a tx g P X f) (hQ : MP Q (runA tx.length X a).2 tx 0 (.inl (some (.int (runA tx.length X a).1)))) : Tr tX10_runCommands 0 0 [.ref 0] (mdW g P H X G f h) Q :=
  m_runCommands hL.2.2.1.1 hL.2.2.1.2.1 hL.2.2.2.1 hL.1 hA (by have := hL.2.2.1.2.1; omega) hL.2.1 (fun g1 P1 H1 G1 f1 hR hK hf h3 => hQ _ _ _ _ _ _ _ ⟨hR, hK, ⟨(hf 2 (by decide) (by decide) (by decide) (by decide) (by decide)).trans hL.2.2.1.1, hL.2.2.1.2⟩, (hf 1 (by decide) (by decide) (by decide) (by decide) (by decide)).trans hL.2.2.2.1, (hf 4 (by decide) (by decide) (by decide) (by decide) (by decide)).trans hL.2.2.2.2⟩ h3)
