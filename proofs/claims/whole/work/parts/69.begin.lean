/-! the memories at the beginning -/
def mem0 : Mem := fun _ _ => 0
def memM : Mem := fun c i => if c = 2 ∧ 0 ≤ i ∧ i < 12 then -9 else 0
theorem memM_off {c : Nat} (h : c ≠ 2) (i : Int) : memM c i = 0 := by
  unfold memM
  rw [if_neg (fun z => h z.1)]
theorem rel0 : Rel 0 mem0 memM := by
  refine ⟨⟨⟨Int.le_refl 0, by decide, fun n n0 n1 => ?_⟩, ⟨Int.le_refl 0, by decide, rfl⟩, ⟨fun x x0 x1 => ?_, fun x y x0 x1 => ?_⟩, fun x x0 x1 => ?_, fun n n0 n1 => ?_, Or.inl rfl⟩, ⟨memM_off (by decide) _, memM_off (by decide) _, memM_off (by decide) _⟩, fun n n0 n1 => ?_, fun n n0 n1 => ⟨?_, memM_off (by decide) _⟩, fun x x0 x1 => ?_, ⟨memM_off (by decide) _, fun z => absurd rfl z⟩, ?_⟩
  · exact absurd (show n < 0 from n1) (by omega)
  · exact absurd (show x < 0 from x1) (by omega)
  · exact absurd (show x < 0 from x1) (by omega)
  · exact absurd (show x < 0 from x1) (by omega)
  · exact absurd (show n < 0 from n1) (by omega)
  · exact absurd (show n < 0 from n1) (by omega)
  · unfold memM
    rw [if_pos ⟨rfl, n0, n1⟩]
  · exact absurd (show x < 0 from x1) (by omega)
  · rw [memM_off (by decide)]
    refine ⟨Int.le_refl 0, Int.le_refl 0, fun i _ _ => ?_⟩
    rw [memM_off (by decide)]
    decide
theorem RG_0 (l : Launch) (D : va_G) (ad : Nat → Nat) (cA : Nat → ClassId) : RG (xC l D ad cA) mem0 := fun _ _ => ⟨fun _ => rlk 0 (by decide), fun _ => rgk 0 (by decide)⟩
theorem RG_M (l : Launch) (D : va_G) (ad : Nat → Nat) (cA : Nat → ClassId) : RG (xM l D ad cA) memM := fun c i => by
  have h : memM c i = -9 ∨ memM c i = 0 := by
    unfold memM
    split
    · exact Or.inl rfl
    · exact Or.inr rfl
  rcases h with e | e <;> rw [e] <;> exact ⟨fun _ => ⟨by decide, by decide⟩, fun _ => ⟨by decide, by decide⟩⟩
theorem gk_M : gk 12 = ai (memM 2) := by
  funext j
  unfold gk ai memM
  by_cases c : j < 12
  · rw [if_pos c, if_pos ⟨rfl, by omega, by omega⟩]
  · rw [if_neg c, if_neg (fun z => by omega)]
    rfl
