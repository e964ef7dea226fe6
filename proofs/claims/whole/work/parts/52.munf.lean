/-! the reference within a check: unfolding -/
/-- C: the class's memory as the check began; M: the reference's now -/
def XW (C M : Mem) : Prop :=
  (M 0 0 = C 2 7 ∧ M 0 4 = C 1 8) ∧
  (∀ n, 0 ≤ n → n < C 2 7 → M 1 n = C 12 n ∧ M 2 n = C 13 n ∧ M 3 n = C 14 n ∧ M 8 n = C 15 n) ∧
  (∀ n, C 2 7 ≤ n → n < 12 → M 2 n = -9 ∧ M 3 n = 0) ∧
  (∀ x, 0 ≤ x → x < C 1 8 → M 4 x = C 4 x ∧ M 5 (2 * x) = C 5 x ∧ M 5 (2 * x + 1) = C 6 x ∧ M 6 x = C 7 x) ∧
  (M 0 33 = C 3 12 ∧ (C 3 12 ≠ 0 → ∀ i, 0 ≤ i → i ≤ 4 → M 21 i = C 26 i))
def XM (C M : Mem) : Prop := XW C M ∧ TM M (M 0 5) ∧ C 1 8 ≤ M 0 5 ∧ ∀ x, 0 ≤ x → x < M 0 5 → 0 ≤ M 6 x ∧ M 6 x ≤ x + 4
def growsM (M M' : Mem) : Prop :=
  (∀ c : Nat, c ≠ 0 → c ≠ 4 → c ≠ 5 → c ≠ 6 → c ≠ 7 → c ≠ 17 → M' c = M c) ∧ (∀ i, i ≠ 5 → i ≠ 9 → i ≠ 19 → M' 0 i = M 0 i) ∧ M 0 5 ≤ M' 0 5 ∧
  ∀ i, 0 ≤ i → i < M 0 5 → M' 4 i = M 4 i ∧ M' 5 (2 * i) = M 5 (2 * i) ∧ M' 5 (2 * i + 1) = M 5 (2 * i + 1) ∧ M' 6 i = M 6 i
theorem growsM.rf {M : Mem} : growsM M M := ⟨fun _ _ _ _ _ _ _ => rfl, fun _ _ _ _ => rfl, Int.le_refl _, fun _ _ _ => ⟨rfl, rfl, rfl, rfl⟩⟩
theorem growsM.tr {M M1 M2 : Mem} (h : growsM M M1) (h2 : growsM M1 M2) : growsM M M2 := by
  refine ⟨fun c a b d e f g => (h2.1 c a b d e f g).trans (h.1 c a b d e f g), fun i a b d => (h2.2.1 i a b d).trans (h.2.1 i a b d), Int.le_trans h.2.2.1 h2.2.2.1, fun i i0 i1 => ?_⟩
  have q := h2.2.2.2 i i0 (Int.lt_of_lt_of_le i1 h.2.2.1)
  have p := h.2.2.2 i i0 i1
  exact ⟨q.1.trans p.1, q.2.1.trans p.2.1, q.2.2.1.trans p.2.2.1, q.2.2.2.trans p.2.2.2⟩
theorem growsM_vM {M M' : Mem} (h : growsM M M') (hT : TM M (M 0 5)) {x : Int} (hx : x < M 0 5) : vM M' x = vM M x :=
  vC_ext hT.1 (fun y y0 y1 => ⟨(h.2.2.2 y y0 y1).1, (h.2.2.2 y y0 y1).2.1, (h.2.2.2 y y0 y1).2.2.1⟩) hx
/-- only cells that the tables don't see have changed -/
def mside (M M' : Mem) : Prop := (∀ c : Nat, c = 1 ∨ c = 2 ∨ c = 3 ∨ c = 4 ∨ c = 5 ∨ c = 6 ∨ c = 8 ∨ c = 21 → M' c = M c) ∧ ∀ i : Int, i = 0 ∨ i = 4 ∨ i = 5 ∨ i = 33 → M' 0 i = M 0 i
theorem mside_pv {M M' : Mem} (h : mside M M') : pv M' = pv M := by
  funext c i
  unfold pv
  rw [h.1 4 (by omega), h.1 5 (by omega), h.1 1 (by omega), h.1 2 (by omega), h.1 3 (by omega), h.2 0 (by omega)]
theorem mside_vM {M M' : Mem} (h : mside M M') (x : Int) : vM M' x = vM M x := by
  unfold vM
  rw [mside_pv h]
theorem mside_TM {M M' : Mem} {N : Int} (h : mside M M') (t : TM M N) : TM M' N := by
  unfold TM
  rw [mside_pv h, h.2 0 (by omega), h.1 1 (by omega)]
  exact t
theorem XW_side {C M M' : Mem} (hs : mside M M') (h : XW C M) : XW C M' := by
  unfold XW
  rw [hs.2 0 (by omega), hs.2 4 (by omega), hs.2 33 (by omega), hs.1 1 (by omega), hs.1 2 (by omega), hs.1 3 (by omega), hs.1 4 (by omega), hs.1 5 (by omega), hs.1 6 (by omega), hs.1 8 (by omega), hs.1 21 (by omega)]
  exact h
theorem XM_side {C M M' : Mem} (hs : mside M M') (h : XM C M) : XM C M' := by
  refine ⟨XW_side hs h.1, ?_⟩
  rw [hs.2 5 (by omega), hs.1 6 (by omega)]
  exact ⟨mside_TM hs h.2.1, h.2.2⟩
section H
variable {C M : Mem} {x f a b : Int} {Q : Int → Mem → Prop}
theorem XM_vM (hI : InvC C) (h : XM C M) (hx : x < C 1 8) : vM M x = vC C x :=
  vC_ext hI.2.2.1 (fun y y0 y1 => ⟨(h.1.2.2.2.1 y y0 y1).1, (h.1.2.2.2.1 y y0 y1).2.1, (h.1.2.2.2.1 y y0 y1).2.2.1⟩) hx
/-- a node of the reference -/
def mnode (M : Mem) (f a b : Int) : Prop := (0 ≤ f ∧ f < M 0 0) ∧ (M 1 f < 1 → a = -9) ∧ (1 ≤ M 1 f → 0 ≤ a ∧ a < M 0 5) ∧ (M 1 f < 2 → b = -9) ∧ (2 ≤ M 1 f → 0 ≤ b ∧ b < M 0 5)
theorem grownM_grows {M' : Mem} (g : grownM M M' f a b) : growsM M M' := by
  obtain ⟨g1, g2, g3, g4, g5, g6⟩ := g
  refine ⟨fun c c0 c4 c5 c6 _ _ => g3 c c0 c4 c5 c6, fun i i5 _ _ => g2 i i5, by omega, fun i i0 i1 => ?_⟩
  rw [g4, g5, g5, g6, if_neg (by omega), if_neg (by omega), if_neg (by omega), if_neg (by omega), if_neg (by omega), if_neg (by omega)]
  exact ⟨rfl, rfl, rfl, rfl⟩
theorem XM_grown {M' : Mem} (h : XM C M) (h0 : 0 ≤ M 0 5) (h7 : M 0 5 < 740) (hv : mnode M f a b) (hno : ∀ x, 0 ≤ x → x < M 0 5 → ¬ mat M x f a b) (g : grownM M M' f a b) : XM C M' := by
  obtain ⟨⟨x1, x2, x3, x4, x5⟩, ⟨t1, t2, t3, t4⟩, h18, hd⟩ := id h
  obtain ⟨g1, g2, g3, g4, g5, g6⟩ := id g
  have k1 : M' 1 = M 1 := g3 1 (by decide) (by decide) (by decide) (by decide)
  have hT : TB (pv M') (M 0 5 + 1) := by
    refine ⟨fun z z0 z1 => ?_, fun z y z0 z1 y0 y1 e1 e2 e3 => ?_⟩
    · unfold tnode
      rw [pv4, pv5, pv6, pv2, pv12, k1, g2 0 (by decide), g4, g5, g5]
      by_cases e : z = M 0 5
      · rw [if_pos e, if_neg (by omega), if_pos (by omega), if_pos (by omega), e]
        exact Or.inr hv
      · rw [if_neg e, if_neg (by omega), if_neg (by omega), if_neg (by omega), if_neg (by omega)]
        exact t1.1 z z0 (by omega)
    · rw [pv4, pv4, g4, g4] at e1
      rw [pv5, pv5, g5, g5] at e2
      rw [pv6, pv6, g5, g5] at e3
      by_cases ex : z = M 0 5
      · by_cases ey : y = M 0 5
        · omega
        · rw [if_pos ex, if_neg ey] at e1
          rw [if_neg (by omega), if_pos (by omega), if_neg (by omega), if_neg (by omega)] at e2
          rw [if_pos (by omega), if_neg (by omega), if_neg (by omega)] at e3
          exact absurd ⟨e1.symm, e2.symm, e3.symm⟩ (hno y y0 (by omega))
      · by_cases ey : y = M 0 5
        · rw [if_neg ex, if_pos ey] at e1
          rw [if_neg (by omega), if_neg (by omega), if_neg (by omega), if_pos (by omega)] at e2
          rw [if_neg (by omega), if_neg (by omega), if_pos (by omega)] at e3
          exact absurd ⟨e1, e2, e3⟩ (hno z z0 (by omega))
        · rw [if_neg ex, if_neg ey] at e1
          rw [if_neg (by omega), if_neg (by omega), if_neg (by omega), if_neg (by omega)] at e2
          rw [if_neg (by omega), if_neg (by omega), if_neg (by omega), if_neg (by omega)] at e3
          exact t1.2 z y z0 (by omega) y0 (by omega) e1 e2 e3
  have da : ∀ z, (z = -9 ∨ (0 ≤ z ∧ z < M 0 5)) → 0 ≤ dM M z ∧ dM M z ≤ M 0 5 + 3 := fun z hz => by
    unfold dM
    rcases hz with e | e
    · rw [if_pos e]
      omega
    · rw [if_neg (by omega)]
      have := hd z e.1 e.2
      omega
  have oa : a = -9 ∨ (0 ≤ a ∧ a < M 0 5) := by
    by_cases c : M 1 f < 1
    · exact Or.inl (hv.2.1 c)
    · exact Or.inr (hv.2.2.1 (by omega))
  have ob : b = -9 ∨ (0 ≤ b ∧ b < M 0 5) := by
    by_cases c : M 1 f < 2
    · exact Or.inl (hv.2.2.2.1 c)
    · exact Or.inr (hv.2.2.2.2 (by omega))
  refine ⟨⟨by rw [g2 0 (by decide), g2 4 (by decide)]; exact x1, fun n n0 n1 => ?_, fun n n0 n1 => ?_, fun z z0 z1 => ?_, ?_⟩, ?_, by omega, fun z z0 z1 => ?_⟩
  · rw [k1, g3 2 (by decide) (by decide) (by decide) (by decide), g3 3 (by decide) (by decide) (by decide) (by decide), g3 8 (by decide) (by decide) (by decide) (by decide)]
    exact x2 n n0 n1
  · rw [g3 2 (by decide) (by decide) (by decide) (by decide), g3 3 (by decide) (by decide) (by decide) (by decide)]
    exact x3 n n0 n1
  · have q := (grownM_grows g).2.2.2 z z0 (by omega)
    rw [q.1, q.2.1, q.2.2.1, q.2.2.2]
    exact x4 z z0 z1
  · rw [g2 33 (by decide), g3 21 (by decide) (by decide) (by decide) (by decide)]
    exact x5
  · refine ⟨by rw [g1]; exact hT, by omega, by rw [g2 0 (by decide)]; exact t3, ?_⟩
    rw [g2 0 (by decide), k1]
    exact t4
  · rw [g6]
    by_cases e : z = M 0 5
    · have ra := da a oa
      have rb := da b ob
      rw [if_pos e]
      unfold imax
      split <;> omega
    · rw [if_neg e]
      exact hd z z0 (by omega)
/-- a node comes: found, or new -/
theorem m_fh (h : XM C M) (h0 : 0 ≤ M 0 5) (h7 : M 0 5 < 740) (hv : mnode M f a b) (q : ∀ (M' : Mem) (r : Int), growsM M M' → M' 0 5 ≤ M 0 5 + 1 → XM C M' → M' 7 = M 7 → M' 17 = M 17 → M' 0 9 = M 0 9 → M' 0 19 = M 0 19 → 0 ≤ r ∧ r < M' 0 5 → vM M' r = nd f.toNat (vM M a) (vM M b) → Q r M') : w_X4_comes M f a b Q := by
  have hd := h.2.2.2
  have oa : a = -9 ∨ (0 ≤ a ∧ a < M 0 5) := by
    by_cases c : M 1 f < 1
    · exact Or.inl (hv.2.1 c)
    · exact Or.inr (hv.2.2.1 (by omega))
  have ob : b = -9 ∨ (0 ≤ b ∧ b < M 0 5) := by
    by_cases c : M 1 f < 2
    · exact Or.inl (hv.2.2.2.1 c)
    · exact Or.inr (hv.2.2.2.2 (by omega))
  have dk : ∀ z, (z = -9 ∨ (0 ≤ z ∧ z < M 0 5)) → dok M z := fun z hz => by
    rcases hz with e | e
    · exact Or.inl e
    · have := hd z e.1 e.2
      exact Or.inr ⟨by omega, by omega⟩
  refine m_comes h0 h7 (dk a oa) (dk b ob) (by omega) (by omega) (fun z z0 z1 hm => ?_) (fun hno M' g => ?_)
  · refine q M z growsM.rf (by omega) h rfl rfl rfl rfl ⟨z0, z1⟩ ?_
    rw [vM_eq h.2.1 ⟨z0, z1⟩, hm.1, hm.2.1, hm.2.2]
  · have hX := XM_grown h h0 h7 hv hno g
    have gg := grownM_grows g
    obtain ⟨g1, g2, g3, g4, g5, g6⟩ := id g
    refine q M' _ gg (by omega) hX (g3 7 (by decide) (by decide) (by decide) (by decide)) (g3 17 (by decide) (by decide) (by decide) (by decide)) (g2 9 (by decide)) (g2 19 (by decide)) (by omega) ?_
    rw [vM_eq hX.2.1 (by omega), g4, g5, g5, if_pos rfl, if_neg (by omega), if_pos rfl, if_pos rfl]
    have e : ∀ z, (z = -9 ∨ (0 ≤ z ∧ z < M 0 5)) → vM M' z = vM M z := fun z hz => by
      rcases hz with e | e
      · rw [vM_neg (by omega), vM_neg (by omega)]
      · exact growsM_vM gg h.2.1 e.2
    rw [e a oa, e b ob]
/-- where a node's parts begin -/
theorem m_fpL {N : Int} {l : Int → Int} {n : Nat} (h : TM M N) (hl : M 7 = l) (hn : n ≤ 15) (hz : ∀ k : Nat, k < n → 0 ≤ l k ∧ l k < N) {k : Nat} (hk : k ≤ n) (q : Q (fpos M l k) M) : ∀ (j i : Nat), i ≤ k → k - i < j → fpos M l i ≤ 1 + 2 * i → 1 ≤ fpos M l i → w_X4_firstPart_L4 Q j M k (fpos M l i) i := by
  intro j
  induction j with
  | zero => intro i h1 h2; omega
  | succ j ih =>
    intro i h1 h2 h3 h4
    rw [w_X4_firstPart_L4]
    refine ⟨fun z => ?_, fun z => ⟨by omega, ?_⟩⟩
    · have e : i = k := by omega
      rw [e]
      exact q
    · have hli := hz i (by omega)
      have hc := TM_pcn h hli
      rw [hl]
      refine m_partsOf h hli ⟨by unfold rg; omega, by unfold rg; omega, ?_⟩
      have e : fpos M l (i + 1) = fpos M l i + pcn M (l i) := by
        unfold fpos
        rw [psum]
        omega
      have := ih (i + 1) (by omega) (by omega) (by omega) (by omega)
      rw [e] at this
      exact this
theorem m_fp {N : Int} {l : Int → Int} {n : Nat} (h : TM M N) (hl : M 7 = l) (hn : n ≤ 15) (hz : ∀ k : Nat, k < n → 0 ≤ l k ∧ l k < N) {k : Nat} (hk : k ≤ n) (q : Q (fpos M l k) M) : w_X4_firstPart M k Q := by
  have e : fpos M l 0 = 1 := by
    unfold fpos
    rw [psum]
    omega
  have := m_fpL h hl hn hz hk q (k + 1) 0 (by omega) (by omega) (by omega) (by omega)
  rw [e] at this
  exact ⟨k + 1, this⟩
end H
