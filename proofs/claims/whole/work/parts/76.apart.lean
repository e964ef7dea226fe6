/-! two worlds that are apart -/
theorem D_any {X : WX} {A : Nat → Prop} {M0 : Mem} (h : va_D A (xw X M0)) : ∀ M, va_D (xA X) (xw X M) := by
  intro M
  have hlen : ∀ (M : Mem) (i : Nat) (x : Nat × va_E), (xw X M)[i]? = some x → i < xK X ∧ x.1 = xad X i := fun M i x hx => by
    have hl : i < (xw X M).length := (List.getElem?_eq_some_iff.mp hx).1
    have hl2 : i < xK X := by
      unfold xw at hl
      rw [List.length_map, List.length_range] at hl
      exact hl
    rw [xw_get X M hl2] at hx
    cases hx
    exact ⟨hl2, rfl⟩
  refine ⟨fun i j x y hi hj he => ?_, fun i x hi => ⟨i, (hlen M i x hi).1, (hlen M i x hi).2⟩⟩
  have a := hlen M i x hi
  have b := hlen M j y hj
  exact h.1 i j _ _ (xw_get X M0 a.1) (xw_get X M0 b.1) (by rw [← a.2, ← b.2, he])
theorem D_in {X : WX} {A : Nat → Prop} {M0 : Mem} (h : va_D A (xw X M0)) : ∀ q, xA X q → A q := by
  intro q hq
  obtain ⟨k, hk, rfl⟩ := hq
  exact h.2 k _ (xw_get X M0 hk)
theorem D_dis {X Y : WX} {A : Nat → Prop} {M0 M1 : Mem} (h : va_D A (xw X M0 ++ xw Y M1)) : ∀ q, xA X q → ¬ xA Y q := by
  intro q hq hy
  obtain ⟨k, hk, e1⟩ := hq
  obtain ⟨j, hj, e2⟩ := hy
  have lx : (xw X M0).length = xK X := by
    unfold xw
    rw [List.length_map, List.length_range]
  have g1 : (xw X M0 ++ xw Y M1)[k]? = some (xad X k, xE X k (M0 k)) := by
    rw [List.getElem?_append_left (by omega)]
    exact xw_get X M0 hk
  have g2 : (xw X M0 ++ xw Y M1)[xK X + j]? = some (xad Y j, xE Y j (M1 j)) := by
    rw [List.getElem?_append_right (by omega), lx, show xK X + j - xK X = j by omega]
    exact xw_get Y M1 hj
  have := h.1 k (xK X + j) _ _ g1 g2 (e1.symm.trans e2)
  omega
