/-! the reference: a term comes -/
def dM (M : Mem) (a : Int) : Int := if a = -9 then 0 else M 6 a
def grownM (M M' : Mem) (f a b : Int) : Prop :=
  M' 0 5 = M 0 5 + 1 ∧ (∀ i, i ≠ 5 → M' 0 i = M 0 i) ∧ (∀ c : Nat, c ≠ 0 → c ≠ 4 → c ≠ 5 → c ≠ 6 → M' c = M c) ∧
  (∀ i, M' 4 i = if i = M 0 5 then f else M 4 i) ∧ (∀ i, M' 5 i = if i = 2 * M 0 5 + 1 then b else if i = 2 * M 0 5 then a else M 5 i) ∧ ∀ i, M' 6 i = if i = M 0 5 then 1 + imax (dM M a) (dM M b) else M 6 i
section H
variable {M : Mem} {Q : Int → Mem → Prop} {f a b : Int}
def mat (M : Mem) (x f a b : Int) : Prop := M 4 x = f ∧ M 5 (2 * x) = a ∧ M 5 (2 * x + 1) = b
theorem m_findL (h3 : M 0 5 ≤ 740) (q1 : ∀ x, 0 ≤ x → x < M 0 5 → mat M x f a b → Q x M) (q0 : (∀ x, 0 ≤ x → x < M 0 5 → ¬ mat M x f a b) → Q (-9) M) :
    ∀ (n : Nat) (x : Int), 0 ≤ x → x ≤ M 0 5 → M 0 5 - x < n → (∀ y, 0 ≤ y → y < x → ¬ mat M y f a b) → w_X4_find_L3 Q n M f a b x := by
  intro n
  induction n with
  | zero => intro x h0 hle hn hx; omega
  | succ n ih =>
    intro x h0 hle hn hx
    have go : ¬ mat M x f a b → x < M 0 5 → rg (x + 1) ∧ w_X4_find_L3 Q n M f a b (x + 1) := fun hne hl => by
      refine ⟨by unfold rg; omega, ih (x + 1) (by omega) (by omega) (by omega) (fun y h1 h2 => ?_)⟩
      by_cases e : y = x
      · rw [e]
        exact hne
      · exact hx y h1 (by omega)
    rw [w_X4_find_L3]
    refine ⟨fun h => q0 (fun y h1 h2 => hx y h1 (by omega)), fun h => ⟨by omega, fun e => go (fun z => e z.1) (by omega), fun e1 => m_part (by omega) (Or.inl rfl) ?_⟩⟩
    rw [Int.add_zero]
    exact ⟨fun e => go (fun z => e z.2.1) (by omega), fun e2 => m_part (by omega) (Or.inr rfl) ⟨fun e => go (fun z => e z.2.2) (by omega), fun e3 => q1 x h0 (by omega) ⟨e1, e2, e3⟩⟩⟩
theorem m_find (h0 : 0 ≤ M 0 5) (h3 : M 0 5 ≤ 740) (q1 : ∀ x, 0 ≤ x → x < M 0 5 → mat M x f a b → Q x M) (q0 : (∀ x, 0 ≤ x → x < M 0 5 → ¬ mat M x f a b) → Q (-9) M) : w_X4_find M f a b Q :=
  ⟨(M 0 5).toNat + 1, m_findL h3 q1 q0 _ 0 (Int.le_refl 0) h0 (by omega) (fun y h1 h2 => by omega)⟩
/-- a part's depth is at hand -/
def dok (M : Mem) (a : Int) : Prop := a = -9 ∨ ((0 ≤ a ∧ a < 740) ∧ 0 ≤ M 6 a ∧ M 6 a ≤ 1000000)
theorem m_depthBy (ha : dok M a) (hb : dok M b) (q : Q (1 + imax (dM M a) (dM M b)) M) : w_X4_depthBy M a b Q := by
  unfold dok at ha hb
  have j28 : ∀ y, 0 ≤ y → y ≤ 1000000 → Q (1 + imax y (dM M b)) M → w_X4_depthBy_J28 Q M b y := by
    intro y y0 y1 q
    unfold dM imax at q
    refine ⟨fun z => ⟨by unfold rg; omega, ?_⟩, fun z => ⟨by omega, fun c => ⟨by unfold rg; omega, ?_⟩, fun c => ⟨by omega, by unfold rg; omega, ?_⟩⟩⟩
    · rw [if_pos z, if_neg (by omega)] at q
      exact q
    · rw [if_neg z, if_neg (by omega)] at q
      exact q
    · rw [if_neg z, if_pos (by omega)] at q
      exact q
  refine ⟨fun z => j28 0 (by omega) (by omega) ?_, fun z => ⟨by omega, fun c => j28 0 (by omega) (by omega) ?_, fun c => ⟨by omega, j28 _ (by omega) (by omega) ?_⟩⟩⟩
  · have e : dM M a = 0 := by
      unfold dM
      rw [if_pos z]
    rw [e] at q
    exact q
  · have e : dM M a = 0 := by
      unfold dM
      rw [if_neg z]
      omega
    rw [e] at q
    exact q
  · have e : dM M a = M 6 a := by
      unfold dM
      rw [if_neg z]
    rw [e] at q
    exact q
theorem m_comes (h0 : 0 ≤ M 0 5) (h3 : M 0 5 < 740) (ha : dok M a) (hb : dok M b) (ha' : a < M 0 5) (hb' : b < M 0 5) (q1 : ∀ x, 0 ≤ x → x < M 0 5 → mat M x f a b → Q x M) (q0 : (∀ x, 0 ≤ x → x < M 0 5 → ¬ mat M x f a b) → ∀ M', grownM M M' f a b → Q (M 0 5) M') : w_X4_comes M f a b Q := by
  refine m_find h0 (by omega) (fun x x0 x1 hm => ⟨fun z => by omega, fun _ => q1 x x0 x1 hm⟩) (fun hno => ⟨fun _ => ?_, fun z => absurd rfl z⟩)
  have q := q0 hno
  generalize hn : M 0 5 = n at *
  have s1 : (up M 4 n f) 0 5 = n := by simp [up, hn]
  rw [s1]
  have s2 : (up (up M 4 n f) 5 (2 * n) a) 0 5 = n := by simp [up, hn]
  rw [s2]
  generalize hM2 : up (up (up M 4 n f) 5 (2 * n) a) 5 (2 * n + 1) b = M2
  have k5 : M2 0 5 = n := by rw [← hM2]; simp [up, hn]
  have k6 : M2 6 = M 6 := by rw [← hM2, up_off (by decide), up_off (by decide), up_off (by decide)]
  have ed : ∀ z, dM M2 z = dM M z := fun z => by unfold dM; rw [k6]
  have da : dok M2 a := by unfold dok; rw [k6]; exact ha
  have db : dok M2 b := by unfold dok; rw [k6]; exact hb
  have rd : 0 ≤ imax (dM M a) (dM M b) ∧ imax (dM M a) (dM M b) ≤ 1000000 := by
    have r1 : ∀ z, dok M z → 0 ≤ dM M z ∧ dM M z ≤ 1000000 := fun z hz => by
      unfold dok at hz
      unfold dM
      split <;> omega
    have := r1 a ha
    have := r1 b hb
    unfold imax
    split <;> omega
  refine ⟨by omega, by unfold rg; omega, by omega, by unfold rg; omega, by unfold rg; omega, by omega, m_depthBy da db ?_⟩
  rw [ed, ed, k5]
  have s3 : (up M2 6 n (1 + imax (dM M a) (dM M b))) 0 5 = n := by rw [up_off (by decide)]; exact k5
  rw [s3]
  have s4 : (up (up M2 6 n (1 + imax (dM M a) (dM M b))) 0 5 (n + 1)) 0 5 = n + 1 := by simp [up]
  rw [s4]
  refine ⟨by omega, by unfold rg; omega, by unfold rg; omega, ?_⟩
  rw [show n + 1 - 1 = n by omega]
  apply q
  refine ⟨?_, fun i hi => ?_, fun c c0 c4 c5 c6 => ?_, fun i => ?_, fun i => ?_, fun i => ?_⟩
  · rw [hn]
    exact s4
  · rw [up_at]
    show (if i = 5 then n + 1 else (up M2 6 n (1 + imax (dM M a) (dM M b))) 0 i) = M 0 i
    rw [if_neg hi, up_off (by decide), ← hM2, up_off (by decide), up_off (by decide), up_off (by decide)]
  · rw [up_off c0, up_off c6, ← hM2, up_off c5, up_off c5, up_off c4]
  · rw [hn, ← hM2]
    simp [up]
  · rw [hn, ← hM2]
    simp [up]
  · rw [hn, ← hM2]
    simp [up]
end H
