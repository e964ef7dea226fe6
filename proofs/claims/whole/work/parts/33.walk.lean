/-! the reference: the walk through a term -/
/-- where the parts of node k begin -/
def fpos (M : Mem) (l : Int → Int) (k : Nat) : Int := 1 + psum (fun j => pcn M (l j)) k
/-- what the walk through x leaves in l: n nodes -/
def Walk (M : Mem) (N x : Int) (l : Int → Int) (n : Nat) : Prop :=
  (1 ≤ n ∧ n ≤ 15) ∧ (n : Int) = siz (vM M x) ∧ l 0 = x ∧ (∀ k : Nat, k < n → 0 ≤ l k ∧ l k < N) ∧ (∀ p : Nat, psum (fun k => if M 4 (l k) = p then 1 else 0) n = occ p (vM M x)) ∧
  ∀ k : Nat, k < n → (k : Int) < fpos M l k ∧ fpos M l k + pcn M (l k) ≤ n ∧ (0 < pcn M (l k) → l (fpos M l k) = M 5 (2 * l k)) ∧ (1 < pcn M (l k) → l (fpos M l k + 1) = M 5 (2 * l k + 1))
/-- in the midst of it: k nodes are gone through, n are there -/
def Wk (M : Mem) (N x : Int) (l : Int → Int) (k n : Nat) : Prop :=
  k ≤ n ∧ 1 ≤ n ∧ l 0 = x ∧ (∀ j : Nat, j < n → 0 ≤ l j ∧ l j < N) ∧ (n : Int) = fpos M l k ∧
  (k : Int) + (psum (fun j => siz (vM M (l j))) n - psum (fun j => siz (vM M (l j))) k) = siz (vM M x) ∧
  (∀ p : Nat, psum (fun j => if M 4 (l j) = p then 1 else 0) k + (psum (fun j => occ p (vM M (l j))) n - psum (fun j => occ p (vM M (l j))) k) = occ p (vM M x)) ∧
  ∀ j : Nat, j < k → (j : Int) < fpos M l j ∧ fpos M l j + pcn M (l j) ≤ n ∧ (0 < pcn M (l j) → l (fpos M l j) = M 5 (2 * l j)) ∧ (1 < pcn M (l j) → l (fpos M l j + 1) = M 5 (2 * l j + 1))
theorem vM_eq {M : Mem} {N x : Int} (h : TM M N) (hx : 0 ≤ x ∧ x < N) : vM M x = nd (M 4 x).toNat (vM M (M 5 (2 * x))) (vM M (M 5 (2 * x + 1))) := vC_eq h.1 hx.1 hx.2
theorem vM_neg {M : Mem} {x : Int} (h : x < 0) : vM M x = nl := vC_neg h
theorem siz_pos {M : Mem} {N x : Int} (h : TM M N) (hx : 0 ≤ x ∧ x < N) : 1 ≤ siz (vM M x) := by
  rw [vM_eq h hx, siz_nd]
  have := siz_nn (vM M (M 5 (2 * x)))
  have := siz_nn (vM M (M 5 (2 * x + 1)))
  omega
theorem Wk.le {M : Mem} {N x : Int} {l : Int → Int} {k n : Nat} (h : TM M N) (w : Wk M N x l k n) : (n : Int) ≤ siz (vM M x) := by
  obtain ⟨w1, w2, w3, w4, w5, w6, w7, w8⟩ := w
  have := psum_ge (g := fun j => siz (vM M (l j))) (b := 1) k (n - k) (fun j h0 h1 => by
    have h2 := w4 j.toNat (by omega)
    rw [Int.toNat_of_nonneg (by omega)] at h2
    exact siz_pos h h2)
  rw [show k + (n - k) = n by omega] at this
  omega
/-- the parts of node k come behind: m of them, the rows l' -/
theorem Wk.step {M : Mem} {N x : Int} {l l' : Int → Int} {k n : Nat} (h : TM M N) (w : Wk M N x l k n) (hk : k < n) (hl : ∀ j : Int, 0 ≤ j → j < n → l' j = l j) (m : Nat) (hm : (m : Int) = pcn M (l k)) (h0 : 0 < m → l' n = M 5 (2 * l k)) (h1 : 1 < m → l' (n + 1) = M 5 (2 * l k + 1)) : Wk M N x l' (k + 1) (n + m) := by
  obtain ⟨w1, w2, w3, w4, w5, w6, w7, w8⟩ := w
  have hlk := w4 k hk
  have hp := TM_pcn h hlk
  have hpp := TM_parts h hlk
  have ek : l' k = l k := hl k (by omega) (by omega)
  have fp : ∀ j : Nat, j ≤ n → fpos M l' j = fpos M l j := fun j hj => by
    unfold fpos
    rw [psum_ext j (fun i i0 i1 => by rw [hl i i0 (by omega)])]
  have sm : ∀ (g : Int → Int) (j : Nat), j ≤ n → psum (fun i => g (l' i)) j = psum (fun i => g (l i)) j := fun g j hj => psum_ext j (fun i i0 i1 => by rw [hl i i0 (by omega)])
  have fk1 : fpos M l' (k + 1) = fpos M l k + pcn M (l k) := by
    rw [fp (k + 1) (by omega)]
    unfold fpos
    rw [psum]
    omega
  have hv := vM_eq h hlk
  -- the sums over the new rows
  have add : ∀ g : Int → Int, psum (fun i => g (l' i)) (n + m) = psum (fun i => g (l i)) n + ((if 0 < m then g (M 5 (2 * l k)) else 0) + (if 1 < m then g (M 5 (2 * l k + 1)) else 0)) := fun g => by
    have hm3 : m = 0 ∨ m = 1 ∨ m = 2 := by omega
    rcases hm3 with e | e | e
    · subst e
      simp only [Nat.add_zero, Nat.lt_irrefl, if_false, show ¬ 1 < 0 by decide]
      rw [sm g n (Nat.le_refl n)]
      omega
    · subst e
      rw [psum, sm g n (Nat.le_refl n), h0 (by decide)]
      simp
    · subst e
      rw [show n + 2 = (n + 1) + 1 by omega, psum, psum, sm g n (Nat.le_refl n), h0 (by decide)]
      have : l' ((n + 1 : Nat) : Int) = M 5 (2 * l k + 1) := by
        rw [Int.natCast_add]
        exact h1 (by decide)
      rw [this]
      simp
      omega
  have sp : siz (vM M (l k)) = 1 + ((if 0 < m then siz (vM M (M 5 (2 * l k))) else 0) + (if 1 < m then siz (vM M (M 5 (2 * l k + 1))) else 0)) := by
    rw [hv, siz_nd]
    by_cases c0 : 0 < m
    · by_cases c1 : 1 < m
      · rw [if_pos c0, if_pos c1]
        omega
      · rw [if_pos c0, if_neg c1, hpp.2.2.2 (by omega), vM_neg (by decide : (-9 : Int) < 0), siz_nl]
        omega
    · rw [if_neg c0, if_neg (by omega), hpp.2.2.2 (by omega), hpp.2.2.1 (by omega), vM_neg (by decide : (-9 : Int) < 0), siz_nl]
      omega
  have op : ∀ p : Nat, occ p (vM M (l k)) = (if M 4 (l k) = p then 1 else 0) + ((if 0 < m then occ p (vM M (M 5 (2 * l k))) else 0) + (if 1 < m then occ p (vM M (M 5 (2 * l k + 1))) else 0)) := fun p => by
    have hf := h.fr hlk
    have e1 : (if (M 4 (l k)).toNat = p then (1 : Int) else 0) = (if M 4 (l k) = p then 1 else 0) := by
      by_cases c : M 4 (l k) = p
      · rw [if_pos c, if_pos (by omega)]
      · rw [if_neg c, if_neg (by omega)]
    rw [hv, occ_nd, e1]
    by_cases c0 : 0 < m
    · by_cases c1 : 1 < m
      · rw [if_pos c0, if_pos c1]
        omega
      · rw [if_pos c0, if_neg c1, hpp.2.2.2 (by omega), vM_neg (by decide : (-9 : Int) < 0), occ_nl]
        omega
    · rw [if_neg c0, if_neg (show ¬ 1 < m by omega), hpp.2.2.2 (by omega), hpp.2.2.1 (by omega), vM_neg (by decide : (-9 : Int) < 0), occ_nl]
      omega
  refine ⟨by omega, by omega, by rw [hl 0 (by omega) (by omega)]; exact w3, fun j hj => ?_, ?_, ?_, fun p => ?_, fun j hj => ?_⟩
  · by_cases c : j < n
    · rw [hl j (by omega) (by omega)]
      exact w4 j c
    · by_cases c2 : j = n
      · rw [c2, h0 (by omega)]
        have := hpp.1 (by omega)
        omega
      · have e : (j : Int) = n + 1 := by omega
        rw [e, h1 (by omega)]
        have := hpp.2.1 (by omega)
        omega
  · rw [fk1]
    omega
  · have a1 := add (fun y => siz (vM M y))
    have a2 := sm (fun y => siz (vM M y)) (k + 1) (by omega)
    have a4 : psum (fun i => siz (vM M (l i))) (k + 1) = psum (fun i => siz (vM M (l i))) k + siz (vM M (l k)) := rfl
    omega
  · have a1 := add (fun y => occ p (vM M y))
    have a2 := sm (fun y => occ p (vM M y)) (k + 1) (by omega)
    have a3 := sm (fun y => if M 4 y = p then 1 else 0) (k + 1) (by omega)
    have a4 : psum (fun i => occ p (vM M (l i))) (k + 1) = psum (fun i => occ p (vM M (l i))) k + occ p (vM M (l k)) := rfl
    have a5 : psum (fun i => if M 4 (l i) = p then 1 else 0) (k + 1) = psum (fun i => if M 4 (l i) = p then 1 else 0) k + (if M 4 (l k) = p then 1 else 0) := rfl
    have a6 := w7 p
    have a7 := op p
    omega
  · by_cases c : j < k
    · have q := w8 j c
      rw [fp j (by omega), hl j (by omega) (by omega)]
      have hq := TM_pcn h (w4 j (by omega))
      have f0 : 0 ≤ fpos M l j := by omega
      refine ⟨q.1, by omega, fun z => ?_, fun z => ?_⟩
      · rw [hl _ f0 (by omega)]
        exact q.2.2.1 z
      · rw [hl _ (by omega) (by omega)]
        exact q.2.2.2 z
    · have e : j = k := by omega
      rw [e, fp k (by omega), ek]
      refine ⟨by omega, by omega, fun z => ?_, fun z => ?_⟩
      · rw [← w5]
        exact h0 (by omega)
      · rw [← w5]
        exact h1 (by omega)
theorem Wk.done {M : Mem} {N x : Int} {l : Int → Int} {n : Nat} (h : TM M N) (h15 : siz (vM M x) ≤ 15) (w : Wk M N x l n n) : Walk M N x l n := by
  have hle := w.le h
  obtain ⟨w1, w2, w3, w4, w5, w6, w7, w8⟩ := w
  refine ⟨⟨w2, by omega⟩, by omega, w3, w4, fun p => ?_, w8⟩
  have := w7 p
  omega
theorem Wk.start {M : Mem} {N x : Int} {l : Int → Int} (hx : 0 ≤ x ∧ x < N) (h0 : l 0 = x) : Wk M N x l 0 1 := by
  refine ⟨by omega, by omega, h0, fun j hj => ?_, ?_, ?_, fun p => ?_, fun j hj => by omega⟩
  · rw [show j = 0 by omega]
    show 0 ≤ l 0 ∧ l 0 < N
    rw [h0]
    exact hx
  · rfl
  · simp [psum, h0]
  · simp [psum, h0]
