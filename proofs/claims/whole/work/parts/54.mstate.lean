/-! the reference within a check: its state, and its small steps -/
/-- an entry w of the answers, where v was judged -/
def mc (K v w : Int) : Prop := (v = 0 → 0 ≤ w ∧ w < 2 * K) ∧ (v ≠ 0 → w = 2 * K + v - 1)
def SM (C : Mem) (K : Int) (σ : SG) (prog : Tr → Tr → Prop) (M : Mem) : Prop :=
  XM C M ∧ M 0 5 ≤ 90 + 15 * σ.2.1 ∧ (0 ≤ σ.2.1 ∧ σ.2.1 ≤ 40) ∧ (M 0 19 = σ.2.1 ∧ M 0 20 = σ.2.2.1 ∧ M 0 21 = σ.2.2.2.1 ∧ M 0 22 = σ.2.2.2.2 ∧ M 0 23 = 0 ∧ M 0 24 = K) ∧
  (∀ a b, 0 ≤ a → a < M 0 5 → 0 ≤ b → b < M 0 5 → mc K (σ.1 (vM M a) (vM M b)) (M 16 (740 * a + b))) ∧
  (∀ a b, 0 ≤ a → a < 740 → 0 ≤ b → b < 740 → ¬ (a < M 0 5 ∧ b < M 0 5) → mc K 0 (M 16 (740 * a + b))) ∧
  (∀ p q, σ.1 p q ≠ 0 → (σ.1 p q = 1 ∨ σ.1 p q = 2) ∧ ∃ a b, (0 ≤ a ∧ a < M 0 5) ∧ (0 ≤ b ∧ b < M 0 5) ∧ vM M a = p ∧ vM M b = q) ∧
  ∃ L : List Nat, L.Nodup ∧ (L.length : Int) = σ.2.2.1 ∧ ∀ n ∈ L, ∃ a b : Int, (0 ≤ a ∧ a < M 0 5) ∧ (0 ≤ b ∧ b < M 0 5) ∧ (n : Int) = 740 * a + b ∧ (σ.1 (vM M a) (vM M b) ≠ 0 ∨ prog (vM M a) (vM M b))
/-- the check is SPENT -/
def SS (C : Mem) (K : Int) (M : Mem) : Prop := XW C M ∧ M 0 23 = 1 ∧ M 0 24 = K ∧ ∀ i, 0 ≤ i → i < 547600 → 0 ≤ M 16 i ∧ M 16 i ≤ 2 * K + 1
def fbM (d : Int) (M M' : Mem) : Prop := ∀ i : Int, 0 ≤ i → i < d → M' 18 i = M 18 i ∧ M' 19 i = M 19 i ∧ M' 20 i = M 20 i
def extM (M M' : Mem) : Prop := M 0 5 ≤ M' 0 5 ∧ ∀ i : Int, 0 ≤ i → i < M 0 5 → M' 4 i = M 4 i ∧ M' 5 (2 * i) = M 5 (2 * i) ∧ M' 5 (2 * i + 1) = M 5 (2 * i + 1)
theorem fbM.rf {d : Int} {M : Mem} : fbM d M M := fun _ _ _ => ⟨rfl, rfl, rfl⟩
theorem fbM.tr {d : Int} {M M1 M2 : Mem} (h : fbM d M M1) (h2 : fbM d M1 M2) : fbM d M M2 := fun i i0 i1 => ⟨(h2 i i0 i1).1.trans (h i i0 i1).1, (h2 i i0 i1).2.1.trans (h i i0 i1).2.1, (h2 i i0 i1).2.2.trans (h i i0 i1).2.2⟩
theorem fbM.le {d d' : Int} {M M1 : Mem} (h : fbM d M M1) (hd : d' ≤ d) : fbM d' M M1 := fun i i0 i1 => h i i0 (by omega)
theorem extM.rf {M : Mem} : extM M M := ⟨Int.le_refl _, fun _ _ _ => ⟨rfl, rfl, rfl⟩⟩
theorem extM.tr {M M1 M2 : Mem} (h : extM M M1) (h2 : extM M1 M2) : extM M M2 := by
  refine ⟨Int.le_trans h.1 h2.1, fun i i0 i1 => ?_⟩
  have q := h2.2 i i0 (Int.lt_of_lt_of_le i1 h.1)
  have p := h.2 i i0 i1
  exact ⟨q.1.trans p.1, q.2.1.trans p.2.1, q.2.2.trans p.2.2⟩
theorem extM_vM {M M' : Mem} (h : extM M M') (hT : TM M (M 0 5)) {x : Int} (hx : x < M 0 5) : vM M' x = vM M x := vC_ext hT.1 h.2 hx
theorem growsM_ext {M M' : Mem} (h : growsM M M') : extM M M' := ⟨h.2.2.1, fun i i0 i1 => ⟨(h.2.2.2 i i0 i1).1, (h.2.2.2 i i0 i1).2.1, (h.2.2.2 i i0 i1).2.2.1⟩⟩
theorem mside_ext {M M' : Mem} (h : mside M M') : extM M M' := ⟨by rw [h.2 5 (by omega)]; exact Int.le_refl _, fun i _ _ => by rw [h.1 4 (by omega), h.1 5 (by omega)]; exact ⟨rfl, rfl, rfl⟩⟩
section H
variable {C M M' : Mem} {K : Int} {σ : SG} {prog : Tr → Tr → Prop} {a b v : Int}
theorem SM_j (h : SM C K σ prog M) : 0 ≤ σ.2.2.1 ∧ σ.2.2.1 ≤ 547600 := by
  obtain ⟨hX, h1, h2, h3, h4, h5, h6, L, l1, l2, l3⟩ := h
  have h740 := hX.2.1.2.1
  have := nodup_le 547600 L l1 (fun n hn => by
    obtain ⟨a, b, a1, b1, e, -⟩ := l3 n hn
    omega)
  omega
theorem XM_inj (h : XM C M) (ha : 0 ≤ a ∧ a < M 0 5) (hb : 0 ≤ b ∧ b < M 0 5) (e : vM M a = vM M b) : a = b :=
  vC_inj h.2.1.1 h.2.1.2.2.1.2 ha.2 hb.2 (by omega) (by omega) e
/-- the cells that the state looks at -/
theorem SM_side (h : SM C K σ prog M) (hs : mside M M') (h16 : M' 16 = M 16) (h0 : ∀ i, 19 ≤ i → i ≤ 24 → M' 0 i = M 0 i) : SM C K σ prog M' := by
  obtain ⟨hX, g1, g2, g3, g4, g5, g6, L, l1, l2, l3⟩ := h
  have e5 : M' 0 5 = M 0 5 := hs.2 5 (by omega)
  refine ⟨XM_side hs hX, by rw [e5]; exact g1, g2, by rw [h0 19 (by decide) (by decide), h0 20 (by decide) (by decide), h0 21 (by decide) (by decide), h0 22 (by decide) (by decide), h0 23 (by decide) (by decide), h0 24 (by decide) (by decide)]; exact g3, ?_, ?_, ?_, L, l1, l2, ?_⟩
  · intro a b
    rw [e5, h16, mside_vM hs, mside_vM hs]
    exact g4 a b
  · intro a b
    rw [e5, h16]
    exact g5 a b
  · intro p q hp
    rw [e5]
    obtain ⟨w, a, b, ha, hb, ea, eb⟩ := g6 p q hp
    exact ⟨w, a, b, ha, hb, by rw [mside_vM hs]; exact ea, by rw [mside_vM hs]; exact eb⟩
  · intro n hn
    rw [e5]
    obtain ⟨a, b, ha, hb, e, o⟩ := l3 n hn
    exact ⟨a, b, ha, hb, e, by rw [mside_vM hs, mside_vM hs]; exact o⟩
/-- the state stays as the table grows -/
theorem SM_grows {u' : Int} (h : SM C K σ prog M) (g : growsM M M') (hX : XM C M') (h9 : M' 0 5 ≤ 90 + 15 * u') (hu : 0 ≤ u' ∧ u' ≤ 40) (e19 : M' 0 19 = u') : SM C K (σ.1, u', σ.2.2.1, σ.2.2.2.1, σ.2.2.2.2) prog M' := by
  obtain ⟨hX0, h1, h2, ⟨h3, h3', h3'', h3''', h3a, h3b⟩, h4, h5, h6, L, l1, l2, l3⟩ := h
  have e16 : M' 16 = M 16 := g.1 16 (by decide) (by decide) (by decide) (by decide) (by decide) (by decide)
  have hT := hX0.2.1
  have lg := g.2.2.1
  have h740 := hX.2.1.2.1
  have vv : ∀ x, x < M 0 5 → vM M' x = vM M x := fun x hx => growsM_vM g hT hx
  have z0 : ∀ i, 20 ≤ i → i ≤ 24 → M' 0 i = M 0 i := fun i i0 i1 => g.2.1 i (by omega) (by omega) (by omega)
  refine ⟨hX, h9, hu, ⟨e19, by rw [z0 20 (by decide) (by decide)]; exact h3', by rw [z0 21 (by decide) (by decide)]; exact h3'', by rw [z0 22 (by decide) (by decide)]; exact h3''', by rw [z0 23 (by decide) (by decide)]; exact h3a, by rw [z0 24 (by decide) (by decide)]; exact h3b⟩, fun a b a0 a1 b0 b1 => ?_, fun a b a0 a1 b0 b1 hn => ?_, fun p q hp => ?_, L, l1, l2, fun n hn => ?_⟩
  · rw [e16]
    by_cases c : a < M 0 5 ∧ b < M 0 5
    · rw [vv a c.1, vv b c.2]
      exact h4 a b a0 c.1 b0 c.2
    · have q := h5 a b a0 (by omega) b0 (by omega) c
      show mc K (σ.1 (vM M' a) (vM M' b)) _
      by_cases z : σ.1 (vM M' a) (vM M' b) = 0
      · rw [z]
        exact q
      · obtain ⟨-, a', b', ha', hb', ea, eb⟩ := h6 _ _ z
        rw [← vv a' ha'.2] at ea
        rw [← vv b' hb'.2] at eb
        have q1 := XM_inj hX (by omega) (by omega) ea
        have q2 := XM_inj hX (by omega) (by omega) eb
        omega
  · rw [e16]
    exact h5 a b a0 a1 b0 b1 (by omega)
  · obtain ⟨v, a, b, ha, hb, ea, eb⟩ := h6 p q hp
    exact ⟨v, a, b, by omega, by omega, by rw [vv a ha.2]; exact ea, by rw [vv b hb.2]; exact eb⟩
  · obtain ⟨a, b, ha, hb, e, o⟩ := l3 n hn
    refine ⟨a, b, by omega, by omega, e, ?_⟩
    rw [vv a ha.2, vv b hb.2]
    exact o
/-- a pair begins to be judged -/
theorem SM_new {x y : Tr} (h : SM C K σ prog M) (ha : 0 ≤ a ∧ a < M 0 5) (hb : 0 ≤ b ∧ b < M 0 5) (ea : vM M a = x) (eb : vM M b = y) (hm : σ.1 x y = 0) (hp : ¬ prog x y) (hs : mside M M') (h16 : M' 16 = M 16) (h0 : ∀ i, 19 ≤ i → i ≤ 24 → i ≠ 20 → M' 0 i = M 0 i) (h20 : M' 0 20 = σ.2.2.1 + 1) : SM C K (σ.1, σ.2.1, σ.2.2.1 + 1, σ.2.2.2.1, σ.2.2.2.2) (PR prog x y) M' := by
  obtain ⟨hX, g1, g2, ⟨h3, h3', h3'', h3''', h3a, h3b⟩, g4, g5, g6, L, l1, l2, l3⟩ := h
  have e5 : M' 0 5 = M 0 5 := hs.2 5 (by omega)
  have h740 := hX.2.1.2.1
  refine ⟨XM_side hs hX, by rw [e5]; exact g1, g2, ⟨by rw [h0 19 (by decide) (by decide) (by decide)]; exact h3, h20, by rw [h0 21 (by decide) (by decide) (by decide)]; exact h3'', by rw [h0 22 (by decide) (by decide) (by decide)]; exact h3''', by rw [h0 23 (by decide) (by decide) (by decide)]; exact h3a, by rw [h0 24 (by decide) (by decide) (by decide)]; exact h3b⟩, ?_, ?_, ?_, (740 * a + b).toNat :: L, ?_, ?_, ?_⟩
  · intro p q
    rw [e5, h16, mside_vM hs, mside_vM hs]
    exact g4 p q
  · intro p q
    rw [e5, h16]
    exact g5 p q
  · intro p q hpq
    rw [e5]
    obtain ⟨w, a, b, ha, hb, ea, eb⟩ := g6 p q hpq
    exact ⟨w, a, b, ha, hb, by rw [mside_vM hs]; exact ea, by rw [mside_vM hs]; exact eb⟩
  · refine List.nodup_cons.mpr ⟨fun hmem => ?_, l1⟩
    obtain ⟨p, q, hp1, hq1, e, o⟩ := l3 _ hmem
    have e1 : p = a := by omega
    have e2 : q = b := by omega
    rw [e1, e2, ea, eb] at o
    rcases o with o | o
    · exact o hm
    · exact hp o
  · show ((L.length + 1 : Nat) : Int) = σ.2.2.1 + 1
    omega
  · intro n hn
    rw [e5]
    rcases List.mem_cons.mp hn with hn | hn
    · refine ⟨a, b, ha, hb, by omega, Or.inr ?_⟩
      rw [mside_vM hs, mside_vM hs]
      exact Or.inr ⟨ea, eb⟩
    · obtain ⟨p, q, hp1, hq1, e, o⟩ := l3 n hn
      refine ⟨p, q, hp1, hq1, e, ?_⟩
      rw [mside_vM hs, mside_vM hs]
      rcases o with o | o
      · exact Or.inl o
      · exact Or.inr (Or.inl o)
/-- a pair is judged -/
theorem SM_end {x y : Tr} (h : SM C K σ (PR prog x y) M) (ha : 0 ≤ a ∧ a < M 0 5) (hb : 0 ≤ b ∧ b < M 0 5) (ea : vM M a = x) (eb : vM M b = y) (hv : v = 0 ∨ v = 1) (hs : mside M M') (h16 : ∀ i, M' 16 i = if i = 740 * a + b then 2 * K + v else M 16 i) (h0 : ∀ i, 19 ≤ i → i ≤ 24 → M' 0 i = M 0 i) : SM C K (mst σ.1 x y (v + 1), σ.2.1, σ.2.2.1, σ.2.2.2.1, σ.2.2.2.2) prog M' := by
  obtain ⟨hX, g1, g2, g3, g4, g5, g6, L, l1, l2, l3⟩ := h
  have e5 : M' 0 5 = M 0 5 := hs.2 5 (by omega)
  have h740 := hX.2.1.2.1
  have at0 : mst σ.1 x y (v + 1) x y = v + 1 := mst_at _ _ _ _
  have off : ∀ p q, 0 ≤ p ∧ p < M 0 5 → 0 ≤ q ∧ q < M 0 5 → ¬ (p = a ∧ q = b) → mst σ.1 x y (v + 1) (vM M p) (vM M q) = σ.1 (vM M p) (vM M q) := fun p q hp hq hn => mst_off (fun z => hn ⟨XM_inj hX hp ha (by rw [z.1, ea]), XM_inj hX hq hb (by rw [z.2, eb])⟩)
  refine ⟨XM_side hs hX, by rw [e5]; exact g1, g2, by rw [h0 19 (by decide) (by decide), h0 20 (by decide) (by decide), h0 21 (by decide) (by decide), h0 22 (by decide) (by decide), h0 23 (by decide) (by decide), h0 24 (by decide) (by decide)]; exact g3, ?_, ?_, ?_, L, l1, l2, ?_⟩
  · intro p q p0 p1 q0 q1
    rw [e5] at p1 q1
    rw [h16, mside_vM hs, mside_vM hs]
    show mc K (mst σ.1 x y (v + 1) (vM M p) (vM M q)) _
    by_cases c : p = a ∧ q = b
    · rw [if_pos (by omega), c.1, c.2, ea, eb, at0]
      exact ⟨fun z => by omega, fun _ => by omega⟩
    · rw [if_neg (by omega), off p q ⟨p0, p1⟩ ⟨q0, q1⟩ c]
      exact g4 p q p0 p1 q0 q1
  · intro p q p0 p1 q0 q1 hn
    rw [e5] at hn
    rw [h16, if_neg (by omega)]
    exact g5 p q p0 p1 q0 q1 hn
  · intro p q hpq
    rw [e5]
    show (mst σ.1 x y (v + 1) p q = 1 ∨ mst σ.1 x y (v + 1) p q = 2) ∧ _
    by_cases c : p = x ∧ q = y
    · rw [c.1, c.2, at0]
      exact ⟨by omega, a, b, ha, hb, by rw [mside_vM hs]; exact ea, by rw [mside_vM hs]; exact eb⟩
    · have hpq' : mst σ.1 x y (v + 1) p q ≠ 0 := hpq
      rw [mst_off c] at hpq' ⊢
      obtain ⟨w, a, b, ha, hb, ea, eb⟩ := g6 p q hpq'
      exact ⟨w, a, b, ha, hb, by rw [mside_vM hs]; exact ea, by rw [mside_vM hs]; exact eb⟩
  · intro n hn
    rw [e5]
    obtain ⟨p, q, hp, hq, e, o⟩ := l3 n hn
    refine ⟨p, q, hp, hq, e, ?_⟩
    rw [mside_vM hs, mside_vM hs]
    show mst σ.1 x y (v + 1) (vM M p) (vM M q) ≠ 0 ∨ _
    by_cases c : p = a ∧ q = b
    · rw [c.1, c.2, ea, eb, at0]
      exact Or.inl (by omega)
    · rw [off p q hp hq c]
      rcases o with o | o
      · exact Or.inl o
      · rcases o with o | o
        · exact Or.inr o
        · exact absurd ⟨XM_inj hX hp ha (by rw [o.1, ea]), XM_inj hX hq hb (by rw [o.2, eb])⟩ c
/-- the clash is told -/
theorem SM_clash {c1 c2 : Int} (h : SM C K σ prog M) (hs : mside M M') (h16 : M' 16 = M 16) (h0 : ∀ i, 19 ≤ i → i ≤ 24 → i ≠ 21 → i ≠ 22 → M' 0 i = M 0 i) (h21 : M' 0 21 = c1) (h22 : M' 0 22 = c2) : SM C K (σ.1, σ.2.1, σ.2.2.1, c1, c2) prog M' := by
  obtain ⟨hX, g1, g2, g3, g4, g5, g6, L, l1, l2, l3⟩ := h
  have e5 : M' 0 5 = M 0 5 := hs.2 5 (by omega)
  refine ⟨XM_side hs hX, by rw [e5]; exact g1, g2, by rw [h0 19 (by decide) (by decide) (by decide) (by decide), h0 20 (by decide) (by decide) (by decide) (by decide), h0 23 (by decide) (by decide) (by decide) (by decide), h0 24 (by decide) (by decide) (by decide) (by decide)]; exact ⟨g3.1, g3.2.1, h21, h22, g3.2.2.2.2⟩, ?_, ?_, ?_, L, l1, l2, ?_⟩
  · intro a b
    rw [e5, h16, mside_vM hs, mside_vM hs]
    exact g4 a b
  · intro a b
    rw [e5, h16]
    exact g5 a b
  · intro p q hp
    rw [e5]
    obtain ⟨w, a, b, ha, hb, ea, eb⟩ := g6 p q hp
    exact ⟨w, a, b, ha, hb, by rw [mside_vM hs]; exact ea, by rw [mside_vM hs]; exact eb⟩
  · intro n hn
    rw [e5]
    obtain ⟨a, b, ha, hb, e, o⟩ := l3 n hn
    exact ⟨a, b, ha, hb, e, by rw [mside_vM hs, mside_vM hs]; exact o⟩
theorem SM_16 (h : SM C K σ prog M) (hK : 1 ≤ K) : ∀ i, 0 ≤ i → i < 547600 → 0 ≤ M 16 i ∧ M 16 i ≤ 2 * K + 1 := by
  intro i i0 i1
  obtain ⟨hX, g1, g2, g3, g4, g5, g6, -⟩ := h
  have e : 740 * (i / 740) + i % 740 = i := by omega
  by_cases c : i / 740 < M 0 5 ∧ i % 740 < M 0 5
  · have q := g4 (i / 740) (i % 740) (by omega) c.1 (by omega) c.2
    rw [e] at q
    by_cases z : σ.1 (vM M (i / 740)) (vM M (i % 740)) = 0
    · have := q.1 z
      omega
    · have w := (g6 _ _ z).1
      have := q.2 z
      omega
  · have q := g5 (i / 740) (i % 740) (by omega) (by omega) (by omega) (by omega) c
    rw [e] at q
    have := q.1 rfl
    omega
end H
