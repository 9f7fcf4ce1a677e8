/-! ===== calls on things from before; some rarer instructions ===== -/
def o_ishr (n : Nat) : WOp := fun K Q L st M b => match st with
  | .int y :: .int x :: st1 => K n L (.int (x >>> (y &&& 31)) :: st1) M b
  | _ => False
theorem s_o_ishr {d : TrD} {G : GX} {pc : Nat} (hd : decode d.2.1 pc = .ok (.ishr, 1)) : Snd d G pc (o_ishr (pc + 1)) := by
  intro p l e R s m args below meth c Z D cy ex A n0 ad0 Q C g K hK L st M b h ad H locs ls h1 h2 h3 h4 h5 h6 h7 hP hD hS hl
  unfold o_ishr at h
  split at h
  · refine lv_ishr C.1 C.2.1 hd ?_
    exact hK _ _ _ _ _ h ad H locs ls h1 h2 h3 (scl.cons trivial h4.tl.tl) h5 h6 h7 hP hD hS hl
  · exact h.elim
/-- new int[4][6] -/
def mnaRows (n N K : Nat) : AM := .inl (4, N, .inr (.inr (.inr (.inr (fun i => if i < N then some (n + 1 + i) else none))))) :: List.replicate N (.inl (0, K, .inl (fun _ => 0)))
def o_mna (n N K : Nat) : WOp := fun KK Q L st M b => match st, Nat.ble (1 + N) b.1, Nat.ble (N + N * K) b.2 with
  | .int z :: .int y :: st1, true, true => (z = Int32.ofNat K ∧ y = Int32.ofNat N) ∧ KK n L (.ref M.length :: st1) (M ++ mnaRows M.length N K) (b.1 - (1 + N), b.2 - (N + N * K))
  | _, _, _ => False
theorem va_plx {L : List Nat} {f : Nat → va_E} {k : Nat} {q : Nat × va_E} : (va_pl L f)[k]? = some q ↔ ∃ a, L[k]? = some a ∧ q = (a, f a) := by
  unfold va_pl
  rw [List.getElem?_map]
  cases L[k]? with
  | none => simp
  | some a => simp [eq_comm]
theorem xw_app {cy ad ex : Nat → Nat} {M M2 : AM} : xw cy ad ex (M ++ M2) = xw cy ad ex M ++ M2.mapIdx (fun i o => (ad (i + M.length), xo cy ad ex o)) := by
  unfold xw
  rw [List.mapIdx_append]
theorem s_mna {d : TrD} {G : GX} {pc ix N K : Nat} (hN : N < 1000) (hKk : K < 1000) (hw1 : Cond.classLink d.1.cls ix "[[I" ∈ WG) (hw2 : Cond.arrayClass .int ∈ WG) (hd : decode d.2.1 pc = .ok (.multianewarray ix 2, 4)) : Snd d G pc (o_mna (pc + 4) N K) := by
  intro p l e R s m args below meth c Z D cy ex A n0 ad0 Q C' g KK hK' L st M b h ad H locs ls h1 h2 h3 h4 h5 h6 h7 hP hD hS hl
  unfold o_mna at h
  split at h
  · rename_i z y st1 hb1 hb2
    have hb1 := Nat.le_of_ble_eq_true hb1
    have hb2 := Nat.le_of_ble_eq_true hb2
    obtain ⟨⟨hz, hy⟩, h⟩ := h
    have hz0 : ¬ z < 0 := by rw [hz]; exact nI_pos (n := K) (by omega)
    have hzN : z.toNatClampNeg = K := by rw [hz]; exact nI_clamp (n := K) (by omega)
    have hy0 : ¬ y < 0 := by rw [hy]; exact nI_pos (n := N) (by omega)
    have hyN : y.toNatClampNeg = N := by rw [hy]; exact nI_clamp (n := N) (by omega)
    have hsl : N * K ≤ 1000000 := Nat.mul_le_mul (Nat.le_of_lt hN) (Nat.le_of_lt hKk)
    have hPx : va_P D vwCl (xw cy ad ex M ++ va_pl [] (fun _ => .inr (0, []))) H := by rw [show va_pl [] (fun _ => (Sum.inr (0, []) : va_E)) = [] from rfl, List.append_nil]; exact hP
    have hDx : va_D A (xw cy ad ex M ++ va_pl [] (fun _ => .inr (0, []))) := by rw [show va_pl [] (fun _ => (Sum.inr (0, []) : va_E)) = [] from rfl, List.append_nil]; exact hD
    refine va_mna (ty := .int) (cy := cy 0) (N' := N) (K' := K) (z := (K, .inl (fun _ => 0))) C'.1 C'.2.1 C'.2.2.2.1 (C'.2.2.2.2.1 _ hw1) C'.2.2.2.2.2.2.1.2.2.2.2.2.2.2.2.2.2.1 (C'.2.2.2.2.1 _ hw2) ((C'.2.2.2.2.2.1.2 0 (cy 0, .int) rfl).2) C'.2.2.2.2.2.1 hPx hDx hS C'.2.2.2.2.2.2.2.1 hy0 hz0 hyN hzN (by omega) (by show K * 4 ≤ _; omega) (by omega) rfl rfl (by omega) (by omega) (fun c => arrV_new c K _) hd (fun q r cA H1 hinj hout hK1 hP1 hD1 hS1 => ?_)
    have hcA : cA = cy 4 := Option.some.inj ((hK1.2 5 (cA, .array .int) rfl).2.symm.trans (C'.2.2.2.2.2.1.2 4 (cy 4, .array .int) rfl).2)
    subst hcA
    obtain ⟨ad', hda⟩ : ∃ w : Nat → Nat, w = fun j => if j < M.length then ad j else if j = M.length then q else r (j - (M.length + 1)) := ⟨_, rfl⟩
    have hag : Agr M.length ad ad' := fun k hk => by rw [hda]; exact if_pos hk
    have hq : ad' M.length = q := by rw [hda]; show (if _ then _ else _) = _; rw [if_neg (Nat.lt_irrefl _), if_pos rfl]
    have hr : ∀ i, ad' (M.length + 1 + i) = r i := fun i => by
      rw [hda]
      show (if _ then _ else if _ then _ else _) = _
      rw [if_neg (by omega), if_neg (by omega), show M.length + 1 + i - (M.length + 1) = i by omega]
    have ec : xc ad' (.inr (.inr (.inr (.inr (fun i => if i < N then some (M.length + 1 + i) else none))))) = .inr (.inr (.inr (.inr (fun i => if i < N then some (r i) else none)))) := by
      show (Sum.inr (Sum.inr (Sum.inr (Sum.inr _))) : XCn) = Sum.inr (Sum.inr (Sum.inr (Sum.inr _)))
      congr 4
      funext i
      by_cases hi : i < N
      · simp only [if_pos hi, Option.map_some, hr]
      · simp only [if_neg hi, Option.map_none]
    have eb : va_pl ([] ++ (List.range N).map r) (vr_up (fun _ => .inr (0, [])) ((List.range N).map r) (.inl (cy 0, (K, .inl (fun _ => 0))))) = (List.replicate N (.inl (0, K, .inl (fun _ => 0)) : AO)).mapIdx (fun i o => (ad' (M.length + 1 + i), xo cy ad' ex o)) := by
      apply List.ext_getElem?
      intro i
      rw [List.nil_append, List.getElem?_mapIdx, List.getElem?_replicate]
      unfold va_pl
      rw [List.map_map, List.getElem?_map]
      by_cases hi : i < N
      · rw [List.getElem?_range hi, if_pos hi]
        show some (r i, vr_up _ _ _ (r i)) = some (ad' (M.length + 1 + i), _)
        rw [hr, vr_up_in (List.mem_map.mpr ⟨i, List.mem_range.mpr hi, rfl⟩)]
        rfl
      · rw [if_neg hi, List.getElem?_eq_none (by rw [List.length_range]; omega)]
        rfl
    have ew : (xw cy ad ex M ++ [(q, .inl (cy 4, N, .inr (.inr (.inr (.inr (fun i => if i < N then some (r i) else none))))))]) ++ va_pl ([] ++ (List.range N).map r) (vr_up (fun _ => .inr (0, [])) ((List.range N).map r) (.inl (cy 0, (K, .inl (fun _ => 0))))) = xw cy ad' ex (M ++ mnaRows M.length N K) := by
      rw [xw_app, xw_agr hag h3, List.append_assoc]
      congr 1
      unfold mnaRows
      rw [List.mapIdx_cons, eb]
      show (q, _) :: _ = (ad' (0 + M.length), (Sum.inl (cy 4, N, xc ad' _) : va_E)) :: _
      rw [Nat.zero_add, hq, ec]
      refine congrArg (_ :: ·) ?_
      show List.mapIdx _ _ = List.mapIdx _ _
      refine congrArg (fun F => List.mapIdx F _) ?_
      funext i o
      rw [show i + 1 + M.length = M.length + 1 + i by omega]
    have el : (M ++ mnaRows M.length N K).length = M.length + 1 + N := by
      rw [List.length_append]
      unfold mnaRows
      rw [List.length_cons, List.length_replicate]
      omega
    rw [ew] at hP1 hD1
    have es : (Value.ref q :: st1.map (xv ad ex)) = (Value.ref M.length :: st1).map (xv ad' ex) := by
      rw [List.map_cons, st_agr hag h4.tl.tl]
      show _ = Value.ref (ad' M.length) :: _
      rw [hq]
    have e1 : R.cells - b.1 + 1 + N = R.cells - (b.1 - (1 + N)) := by omega
    have e2 : R.slots - b.2 + N + N * K = R.slots - (b.2 - (N + N * K)) := by omega
    rw [e1, e2, es]
    refine hK' _ _ _ _ _ h ad' H1 locs ls (h1.tr hag h2) (by rw [el]; omega) ?_ (by rw [el]; exact scl.cons (show M.length < _ by omega) (h4.tl.tl.mono (by omega))) (by rw [el]; exact h5.mono (by omega)) (Nat.le_trans (Nat.sub_le _ _) h6) (Nat.le_trans (Nat.sub_le _ _) h7) hP1 hD1 hS1 (xl_agr hag h5 hl)
    intro o ho
    rw [el]
    rcases List.mem_append.mp ho with ho | ho
    · exact (h3 o ho).mono (by omega)
    · unfold mnaRows at ho
      rcases List.mem_cons.mp ho with rfl | ho
      · intro j k hk
        dsimp only at hk
        split at hk
        · cases hk; omega
        · cases hk
      · rw [(List.mem_replicate.mp ho).2]; exact trivial
  · exact h.elim
