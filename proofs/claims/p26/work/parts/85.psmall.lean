/-! ===== PlateArm: the small ones ===== -/
variable {Q : AQ} {M : AM} {mc ms : Nat}
def mrg0 (emb : List Nat) (Mb M1 : AM) : AM := match M1.drop emb.length with
  | [] => setAll (embF emb Mb.length) Mb emb M1
  | o :: l => setAll (embF emb Mb.length) Mb emb M1 ++ (o :: l).map (upo (embF emb Mb.length))
theorem mrg0_eq {emb : List Nat} {Mb M1 : AM} : mrg emb Mb M1 = mrg0 emb Mb M1 := by
  unfold mrg mrg0
  cases M1.drop emb.length with
  | nil => rw [List.map_nil, List.append_nil]
  | cons o l => rfl
/-- a part of a world with a tail that nobody looks at -/
theorem Tr.ar {d : TrD} {a a1 : List Value} {M Mb : AM} {Q1 : AQ} (emb : List Nat) (h : Tr d mc ms a M (fun o M1 => Q1 (upr (embF emb Mb.length) o) (mrg0 emb Mb M1))) (hn : va_nd emb = true) (hM : emb.map (fun k => Mb[k]?) = M.map (fun o => some (upo (embF emb Mb.length) o))) (ha : a1 = a.map (upv (embF emb Mb.length))) : Tr d mc ms a1 Mb Q1 :=
  Tr.lift emb h hn hM ha (fun _ _ _ q => by rw [mrg0_eq]; exact q)
set_option maxRecDepth 20000 in
theorem p_plateFits {t c : Int32} (hQ : Q (.inl (some (.int (bI (plateFit t c))))) M) : Tr tX9_plateFits mc ms [.int t, .int c] M Q := by
  refine Tr.run sX9_plateFits (by decide +kernel) rfl 60 fun X => ?_
  unfold plateFit at hQ
  refine And.intro (fun h => ⟨rfl, ?_⟩) (fun h1 => And.intro (fun h => ⟨rfl, ?_⟩) (fun h2 => And.intro (fun h => ⟨rfl, ?_⟩) (fun h3 => And.intro (fun h => ⟨rfl, ?_⟩) (fun h4 => ⟨rfl, ?_⟩))))
  · rw [inI_l (Int32.not_le.mpr h)] at hQ; exact hQ
  · rw [inI_h (Int32.not_le.mpr h)] at hQ; exact hQ
  · rw [inI_l (v := c) (Int32.not_le.mpr h), Bool.and_false] at hQ; exact hQ
  · rw [inI_h (v := c) (Int32.not_le.mpr h), Bool.and_false] at hQ; exact hQ
  · rw [inI_t (Int32.not_lt.mp h1) (Int32.not_lt.mp h2), inI_t (Int32.not_lt.mp h3) (Int32.not_lt.mp h4)] at hQ; exact hQ
set_option maxRecDepth 20000 in
theorem p_ticksFit {t : Int32} (hQ : Q (.inl (some (.int (bI (inI t 1 99))))) M) : Tr tX9_ticksFit mc ms [.int t] M Q := by
  refine Tr.run sX9_ticksFit (by decide +kernel) rfl 60 fun X => ?_
  refine And.intro (fun h => ⟨rfl, ?_⟩) (fun h1 => And.intro (fun h => ⟨rfl, ?_⟩) (fun h2 => ⟨rfl, ?_⟩))
  · rw [inI_l (Int32.not_le.mpr h)] at hQ; exact hQ
  · rw [inI_h (Int32.not_le.mpr h)] at hQ; exact hQ
  · rw [inI_t (Int32.not_lt.mp h1) (Int32.not_lt.mp h2)] at hQ; exact hQ
theorem lt4_le3 {w : Int32} : ¬ 4 ≤ w ↔ w ≤ 3 := by
  rw [Int32.le_iff_toInt_le, Int32.le_iff_toInt_le]
  have e4 : ((4 : Int32).toInt) = 4 := by decide
  have e3 : ((3 : Int32).toInt) = 3 := by decide
  omega
def loT (j : Nat) : Int32 := [0, 0, 5, 0].getD j 0
def hiT (j : Nat) : Int32 := [3, 20, 200, 100].getD j 0
theorem setFit_j {w v : Int32} {j : Nat} (hw : w = nI j) (hj : j < 4) : setFit w v = inI v (loT j) (hiT j) := by
  subst hw
  unfold setFit
  match j, hj with
  | 0, _ => rw [if_pos (by decide)]; rfl
  | 1, _ => rw [if_neg (by decide), if_pos (by decide)]; rfl
  | 2, _ => rw [if_neg (by decide), if_neg (by decide), if_pos (by decide)]; rfl
  | 3, _ => rw [if_neg (by decide), if_neg (by decide), if_neg (by decide), if_pos (by decide)]; rfl
theorem setFit_o {w v : Int32} (h : w < 0 ∨ 4 ≤ w) : setFit w v = false := by
  have e : ∀ x : Int32, ¬ (x < 0 ∨ 4 ≤ x) → ¬ w = x := fun x hx z => hx (z ▸ h)
  unfold setFit
  rw [if_neg (e 0 (by decide)), if_neg (e 1 (by decide)), if_neg (e 2 (by decide)), if_neg (e 3 (by decide))]
set_option maxRecDepth 20000 in
theorem p_settingFits {w v : Int32} (hQ : Q (.inl (some (.int (bI (setFit w v))))) M) : Tr tX9_settingFits mc ms [.int w, .int v] M Q := by
  refine Tr.run sX9_settingFits (by decide +kernel) rfl 60 fun X => ?_
  refine And.intro (fun h => ⟨rfl, ?_⟩) (fun h1 => And.intro (fun h => ⟨rfl, ?_⟩) (fun h2 => ?_))
  · rw [setFit_o (Or.inl h)] at hQ; exact hQ
  · rw [setFit_o (Or.inr h)] at hQ; exact hQ
  · have g1 := le0.mp (Int32.not_lt.mp h1)
    have g2 := Int32.le_iff_toInt_le.mp (lt4_le3.mp h2)
    have e3 : ((3 : Int32).toInt) = 3 := by decide
    have hc := of_clamp g1
    have hcn : w.toNatClampNeg = w.toInt.toNat := rfl
    rw [setFit_j hc (by omega)] at hQ
    have v0 : vp_in w 4 := by rw [hc]; exact in_nI (by omega) (by decide)
    refine ⟨v0, And.intro (fun h => ⟨rfl, ?_⟩) (fun h3 => ⟨v0, And.intro (fun h => ⟨rfl, ?_⟩) (fun h4 => ⟨rfl, ?_⟩)⟩)⟩
    · rw [inI_l (Int32.not_le.mpr (show v < loT w.toNatClampNeg from h))] at hQ; exact hQ
    · rw [inI_h (Int32.not_le.mpr (show hiT w.toNatClampNeg < v from h))] at hQ; exact hQ
    · rw [inI_t (Int32.not_lt.mp (show ¬ v < loT w.toNatClampNeg from h3)) (Int32.not_lt.mp (show ¬ hiT w.toNatClampNeg < v from h4))] at hQ; exact hQ
/-! those that look at the state -/
def paO (sc : Int32) : AO := .inr (7, [.ref 1, .ref 13, .ref 25, .int sc, .ref 26, .ref 31, .ref 33])
def pw1 (sc : Int32) (u : Nat → Int32) (n : Int32) (S : Nat → Int32) (R : Nat → Nat → Int32) (L : Nat → Int32) (rest : AM) : AM := paO sc :: (stA 1 u n S R L ++ rest)
variable {sc n : Int32} {u S L : Nat → Int32} {R : Nat → Nat → Int32} {rest : AM}
set_option maxRecDepth 20000 in
theorem p_timeIsLeft {t : Int32} (hQ : Q (.inl (some (.int (z01 (u 6 + t ≤ 9999))))) (pw1 sc u n S R L rest)) : Tr tX9_timeIsLeft mc ms [.ref 0, .int t] (pw1 sc u n S R L rest) Q := by
  refine Tr.run sX9_timeIsLeft (by decide +kernel) rfl 60 fun X => ?_
  refine And.intro (fun h => ⟨rfl, ?_⟩) (fun h => ⟨rfl, ?_⟩)
  · rw [z01_f (Int32.not_le.mpr h)] at hQ; exact hQ
  · rw [z01_t (Int32.not_lt.mp h)] at hQ; exact hQ
theorem le_pred {a b : Int32} (h : 1 ≤ b.toInt) : a ≤ b - 1 ↔ ¬ b ≤ a := by
  have h2 := Int32.toInt_lt b
  rw [Int32.le_iff_toInt_le, Int32.le_iff_toInt_le, sub_in (by rw [i32_1]; omega) (by rw [i32_1]; omega), i32_1]
  omega
set_option maxRecDepth 20000 in
theorem p_requestFits {tr se de : Int32} (h0 : 1 ≤ (u 0).toInt) (h1 : 1 ≤ (u 1).toInt) (hQ : Q (.inl (some (.int (bI (reqFit u tr se de))))) (pw1 sc u n S R L rest)) : Tr tX9_requestFits mc ms [.ref 0, .int tr, .int se, .int de] (pw1 sc u n S R L rest) Q := by
  refine Tr.run sX9_requestFits (by decide +kernel) rfl 80 fun X => ?_
  unfold reqFit at hQ
  refine And.intro (fun h => ⟨rfl, ?_⟩) (fun g1 => And.intro (fun h => ⟨rfl, ?_⟩) (fun g2 => And.intro (fun h => ⟨rfl, ?_⟩) (fun g3 => And.intro (fun h => ⟨rfl, ?_⟩) (fun g4 => And.intro (fun h => ⟨rfl, ?_⟩) (fun g5 => And.intro (fun h => ⟨rfl, ?_⟩) (fun g6 => ⟨rfl, ?_⟩))))))
  · rw [inI_l (v := tr) (Int32.not_le.mpr h)] at hQ; exact hQ
  · rw [inI_h (v := tr) (fun z => (le_pred h0).mp z h)] at hQ; exact hQ
  · rw [inI_l (v := se) (Int32.not_le.mpr h), Bool.false_and, Bool.and_false] at hQ; exact hQ
  · rw [inI_h (v := se) (fun z => (le_pred h1).mp z h), Bool.false_and, Bool.and_false] at hQ; exact hQ
  · rw [inI_l (v := de) (Int32.not_le.mpr h), Bool.and_false, Bool.and_false] at hQ; exact hQ
  · rw [inI_h (v := de) (Int32.not_le.mpr h), Bool.and_false, Bool.and_false] at hQ; exact hQ
  · rw [inI_t (v := tr) (Int32.not_lt.mp g1) ((le_pred h0).mpr g2), inI_t (v := se) (Int32.not_lt.mp g3) ((le_pred h1).mpr g4), inI_t (v := de) (Int32.not_lt.mp g5) (Int32.not_lt.mp g6)] at hQ
    exact hQ
theorem sizeI_0 {v : Int32} : (if 0 ≤ v then v else 0 - v) = sizeI v := by
  unfold sizeI
  rw [Int32.zero_sub]
set_option maxRecDepth 20000 in
theorem p_requestValue {iv wv : Int32} {k j : Nat} {rs : List Rq} (hR : RqOk R rs) (hk : iv = nI k) (hkn : k < rs.length) (hm : rs.length ≤ 12) (hw : wv = nI j) (hj : j < 6) (hQ : Q (.inl (some (.int (toldV u (rs.getD k d0) j)))) (pw1 sc u n S R L rest)) : Tr tX9_requestValue mc ms [.ref 0, .int iv, .int wv] (pw1 sc u n S R L rest) Q := by
  have v0 : vp_in iv 12 := by rw [hk]; exact in_nI (by omega) (by decide)
  have v1 : iv.toNatClampNeg = k := by rw [hk]; exact nI_c (by omega)
  have hr : ∀ i, i < 5 → R i iv.toNatClampNeg = rf (rs.getD k d0) i := by
    intro i hi
    rw [v1, List.getD_eq_getElem?_getD, List.getElem?_eq_getElem hkn]
    exact hR k _ (List.getElem?_eq_getElem hkn) i hi
  have ej : ∀ c : Nat, c < 6 → (wv = nI c ↔ j = c) := fun c hc => by rw [hw]; exact nI_eq (by omega) (by omega)
  refine Tr.run sX9_requestValue (by decide +kernel) rfl 80 fun X => ?_
  unfold toldV at hQ
  refine And.intro (fun z => ⟨v0, ?_⟩) (fun z0 => And.intro (fun z => ⟨v0, ?_⟩) (fun z1 => And.intro (fun z => ⟨v0, ?_⟩) (fun z2 => And.intro (fun z => ⟨v0, ?_⟩) (fun z3 => And.intro (fun z => ⟨v0, ?_⟩) (fun z4 => ⟨v0, And.intro (fun z => ?_) (fun z => ?_)⟩)))))
  · rw [(ej 0 (by decide)).mp z, if_pos (by decide), ← hr 1 (by decide)] at hQ; exact hQ
  · rw [(ej 1 (by decide)).mp z, if_pos (by decide), ← hr 2 (by decide)] at hQ; exact hQ
  · rw [(ej 2 (by decide)).mp z, if_pos (by decide), ← hr 3 (by decide)] at hQ; exact hQ
  · rw [(ej 3 (by decide)).mp z, if_pos (by decide), ← hr 4 (by decide)] at hQ; exact hQ
  · rw [(ej 4 (by decide)).mp z, if_neg (by decide), if_pos rfl, show (rs.getD k d0).2.1 = rf (rs.getD k d0) 1 from rfl, ← hr 1 (by decide), ← sizeI_0] at hQ; exact hQ
  all_goals
    have n0 : ¬ j = 0 := fun y => z0 ((ej 0 (by decide)).mpr y)
    have n1 : ¬ j = 1 := fun y => z1 ((ej 1 (by decide)).mpr y)
    have n2 : ¬ j = 2 := fun y => z2 ((ej 2 (by decide)).mpr y)
    have n3 : ¬ j = 3 := fun y => z3 ((ej 3 (by decide)).mpr y)
    have n4 : ¬ j = 4 := fun y => z4 ((ej 4 (by decide)).mpr y)
    rw [if_neg (by omega), if_neg n4, show (rs.getD k d0).2.2.2.1 = rf (rs.getD k d0) 3 from rfl, ← hr 3 (by decide)] at hQ
  · rw [z01_f (Int32.not_lt.mpr z)] at hQ; exact hQ
  · rw [z01_t (Int32.not_le.mp z)] at hQ; exact hQ
