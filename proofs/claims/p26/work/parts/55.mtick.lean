/-! ===== the reference: reads, givesUp, ticks ===== -/
variable {g P H X G f : Nat → Int32} {h : Int64} {Q : AQ}
/-- a row taken away -/
theorem RS.take {g g1 : Nat → Int32} {ua : Nat → Int32} {ks rest lga : List Rq} {r : Rq} (hR : RS g (ua, ks ++ r :: rest, lga)) (hn : (ks ++ r :: rest).length ≤ 12)
    (h21 : g1 21 = nI ((ks ++ r :: rest).length - 1)) (h1 : ∀ k, 23 + 5 * ks.length ≤ k → k < 23 + 5 * ((ks ++ r :: rest).length - 1) → g1 k = g (k + 5)) (h2 : ∀ k, ¬ k = 21 → (k < 23 + 5 * ks.length ∨ 23 + 5 * ((ks ++ r :: rest).length - 1) ≤ k) → g1 k = g k) (hl : lga.length ≤ 10) : RS g1 (ua, ks ++ rest, lga) := by
  obtain ⟨a, b, c, d, e⟩ := hR
  dsimp only at a b c d e
  have hlen : (ks ++ r :: rest).length = ks.length + rest.length + 1 := by rw [List.length_append, List.length_cons]; omega
  have hlen2 : (ks ++ rest).length = ks.length + rest.length := List.length_append
  refine ⟨fun k hk => (h2 k (by omega) (by omega)).trans (a k hk), by rw [h21]; show _ = nI (ks ++ rest).length; rw [hlen, hlen2]; rfl, (h2 22 (by decide) (by omega)).trans c, fun k x hx j hj => ?_, fun b' x hx j hj => ?_⟩
  · have hkl : k < ks.length + rest.length := by rw [← hlen2]; exact (List.getElem?_eq_some_iff.mp hx).1
    have hx' : (ks ++ rest)[k]? = some x := hx
    by_cases hk : k < ks.length
    · rw [h2 _ (by omega) (by omega)]
      refine d k x ?_ j hj
      rw [List.getElem?_append_left hk] at hx' ⊢
      exact hx'
    · rw [h1 _ (by omega) (by omega), show 23 + 5 * k + j + 5 = 23 + 5 * (k + 1) + j by omega]
      refine d (k + 1) x ?_ j hj
      rw [List.getElem?_append_right (by omega)] at hx' ⊢
      rw [show k + 1 - ks.length = (k - ks.length) + 1 by omega]
      exact hx'
  · have hb : b' < lga.length := (List.getElem?_eq_some_iff.mp hx).1
    rw [h2 _ (by omega) (by omega)]
    exact e b' x hx j hj
