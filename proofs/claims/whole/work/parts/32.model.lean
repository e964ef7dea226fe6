/-! the reference: its tables seen as the class's; its small methods; the walk through a term -/
def pv (M : Mem) : Mem := fun c i => if c = 4 then M 4 i else if c = 5 then M 5 (2 * i) else if c = 6 then M 5 (2 * i + 1) else if c = 12 then M 1 i else if c = 13 then M 2 i else if c = 14 then M 3 i else if c = 2 then M 0 0 else 0
theorem pv4 (M : Mem) (i : Int) : pv M 4 i = M 4 i := rfl
theorem pv5 (M : Mem) (i : Int) : pv M 5 i = M 5 (2 * i) := rfl
theorem pv6 (M : Mem) (i : Int) : pv M 6 i = M 5 (2 * i + 1) := rfl
theorem pv12 (M : Mem) (i : Int) : pv M 12 i = M 1 i := rfl
theorem pv2 (M : Mem) (i : Int) : pv M 2 i = M 0 0 := rfl
def vM (M : Mem) (x : Int) : Tr := vC (pv M) x
/-- the reference's tables up to N -/
def TM (M : Mem) (N : Int) : Prop := TB (pv M) N ∧ N ≤ 740 ∧ (0 ≤ M 0 0 ∧ M 0 0 ≤ 12) ∧ ∀ n, 0 ≤ n → n < M 0 0 → 0 ≤ M 1 n ∧ M 1 n ≤ 2
/-- the cells that a walk leaves -/
def keeps (M M' : Mem) : Prop := (∀ c : Nat, c = 1 ∨ c = 2 ∨ c = 3 ∨ c = 4 ∨ c = 5 ∨ c = 6 ∨ c = 16 ∨ c = 21 → M' c = M c) ∧ ∀ i : Int, i = 0 ∨ i = 4 ∨ i = 5 ∨ i = 24 ∨ i = 33 → M' 0 i = M 0 i
theorem keeps.rf {M : Mem} : keeps M M := ⟨fun _ _ => rfl, fun _ _ => rfl⟩
theorem keeps.tr {M M1 M2 : Mem} (h : keeps M M1) (h2 : keeps M1 M2) : keeps M M2 := ⟨fun c hc => (h2.1 c hc).trans (h.1 c hc), fun i hi => (h2.2 i hi).trans (h.2 i hi)⟩
theorem keeps_pv {M M' : Mem} (h : keeps M M') : pv M' = pv M := by
  funext c i
  unfold pv
  rw [h.1 4 (by omega), h.1 5 (by omega), h.1 1 (by omega), h.1 2 (by omega), h.1 3 (by omega), h.2 0 (by omega)]
def psum (g : Int → Int) : Nat → Int
  | 0 => 0
  | k + 1 => psum g k + g k
theorem psum_ext {g g' : Int → Int} : ∀ k : Nat, (∀ j : Int, 0 ≤ j → j < k → g j = g' j) → psum g k = psum g' k
  | 0, _ => rfl
  | k + 1, h => by rw [psum, psum, psum_ext k (fun j h0 h1 => h j h0 (by omega)), h k (by omega) (by omega)]
theorem psum_ge {g : Int → Int} {b : Int} (k : Nat) : ∀ n : Nat, (∀ j : Int, k ≤ j → j < k + n → b ≤ g j) → b * n ≤ psum g (k + n) - psum g k
  | 0, _ => by simp
  | n + 1, h => by
    have h1 := psum_ge k n (fun j h0 h1 => h j h0 (by omega))
    have h2 := h ((k + n : Nat) : Int) (by omega) (by omega)
    rw [show k + (n + 1) = (k + n) + 1 by omega, psum]
    have : b * ((n + 1 : Nat) : Int) = b * n + b := by
      rw [Int.natCast_add, Int.mul_add]
      simp
    omega
/-- how many parts a term of the reference has -/
def pcn (M : Mem) (y : Int) : Int := if M 4 y < 100 then M 1 (M 4 y) else 0
section H
variable {M : Mem} {Q : Int → Mem → Prop} {x y z n : Int}
theorem m_within (q1 : y ≤ x ∧ x ≤ z → Q 1 M) (q0 : ¬ (y ≤ x ∧ x ≤ z) → Q 0 M) : w_X4_within M x y z Q := ⟨fun h => q0 (by omega), fun h => ⟨fun h2 => q0 (by omega), fun h2 => q1 (by omega)⟩⟩
theorem m_isName (hN : 0 ≤ M 0 0 ∧ M 0 0 ≤ 12) (q1 : 0 ≤ x ∧ x < M 0 0 → Q 1 M) (q0 : ¬ (0 ≤ x ∧ x < M 0 0) → Q 0 M) : w_X4_isName M x Q :=
  ⟨by unfold rg; omega, m_within (fun h => ⟨Or.inr rfl, q1 (by omega)⟩) (fun h => ⟨Or.inl rfl, q0 (by omega)⟩)⟩
theorem m_isTerm (hN : 0 ≤ M 0 4 ∧ M 0 4 ≤ 90) (q1 : 0 ≤ x ∧ x < M 0 4 → Q 1 M) (q0 : ¬ (0 ≤ x ∧ x < M 0 4) → Q 0 M) : w_X4_isTerm M x Q :=
  ⟨by unfold rg; omega, m_within (fun h => ⟨Or.inr rfl, q1 (by omega)⟩) (fun h => ⟨Or.inl rfl, q0 (by omega)⟩)⟩
theorem m_part (hx : 0 ≤ x ∧ x < 740) (hy : y = 0 ∨ y = 1) (q : Q (M 5 (2 * x + y)) M) : w_X4_part M x y Q := ⟨by unfold rg; omega, by unfold rg; omega, by omega, q⟩
theorem m_fold (hx : 0 ≤ x ∧ x < 12) (q0 : ¬ (M 2 x ≠ -9 ∧ M 3 x = 0) → Q 0 M) (q1 : M 2 x ≠ -9 ∧ M 3 x = 0 → Q 1 M) : w_X4_isFolded M x Q :=
  ⟨hx, fun e => q0 (fun h => h.1 e), fun e => ⟨hx, fun o => q0 (fun h => o h.2), fun o => q1 ⟨e, o⟩⟩⟩
theorem TM.fr {N : Int} (h : TM M N) (hx : 0 ≤ x ∧ x < N) : 0 ≤ M 4 x ∧ (M 4 x < M 0 0 ∨ M 4 x = 100 ∨ M 4 x = 101) := h.1.fr hx.1 hx.2 h.2.2.1.2
theorem TM_pcn {N : Int} (h : TM M N) (hx : 0 ≤ x ∧ x < N) : 0 ≤ pcn M x ∧ pcn M x ≤ 2 := by
  have hf := h.fr hx
  have hN := h.2.2.1
  unfold pcn
  by_cases e : M 4 x < 100
  · rw [if_pos e]
    exact h.2.2.2 _ hf.1 (by omega)
  · rw [if_neg e]
    omega
/-- the parts of a term: as many as its front's arity, each a lesser number; none: -9 -/
theorem TM_parts {N : Int} (h : TM M N) (hx : 0 ≤ x ∧ x < N) : (0 < pcn M x → 0 ≤ M 5 (2 * x) ∧ M 5 (2 * x) < x) ∧ (1 < pcn M x → 0 ≤ M 5 (2 * x + 1) ∧ M 5 (2 * x + 1) < x) ∧ (pcn M x ≤ 0 → M 5 (2 * x) = -9) ∧ (pcn M x ≤ 1 → M 5 (2 * x + 1) = -9) := by
  have hf := h.fr hx
  have hN := h.2.2.1
  unfold pcn
  rcases h.1.1 x hx.1 hx.2 with ⟨p1, p2, p3⟩ | ⟨p1, p2, p3, p4, p5⟩
  · rw [pv4] at p1
    rw [pv5] at p2
    rw [pv6] at p3
    rw [if_neg (by omega)]
    refine ⟨fun z => by omega, fun z => by omega, fun _ => p2, fun _ => p3⟩
  · rw [pv4, pv2] at p1
    rw [pv4, pv12, pv5] at p2 p3
    rw [pv4, pv12, pv6] at p4 p5
    rw [if_pos (by omega)]
    exact ⟨fun z => p3 (by omega), fun z => p5 (by omega), fun z => p2 (by omega), fun z => p4 (by omega)⟩
theorem m_partsOf {N : Int} (h : TM M N) (hx : 0 ≤ x ∧ x < N) (q : Q (pcn M x) M) : w_X4_partsOf M x Q := by
  have hf := h.fr hx
  have h7 := h.2.1
  have hN := h.2.2.1
  unfold pcn at q
  refine ⟨by omega, fun z => ⟨by omega, by omega, ?_⟩, fun z => ?_⟩
  · rw [if_pos z] at q
    exact q
  · rw [if_neg z] at q
    exact q
end H
