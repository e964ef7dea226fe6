/-! the reference within a check: its steps -/
/-- the pair stands last -/
def BM (C : Mem) (K : Int) (x y : Tr) (σ : SG) (prog : Tr → Tr → Prop) (M : Mem) (d : Nat) : Prop :=
  SM C K σ prog M ∧ M 0 27 = d + 1 ∧ (0 ≤ M 18 d ∧ M 18 d < M 0 5) ∧ (0 ≤ M 19 d ∧ M 19 d < M 0 5) ∧ vM M (M 18 d) = x ∧ vM M (M 19 d) = y ∧ (d : Int) + dep x ≤ 4 + 4 * σ.2.1 ∧ (d : Int) + dep y ≤ 4 + 4 * σ.2.1
section H
variable {C M : Mem} {K : Int} {x y : Tr} {σ σ1 : SG} {prog : Tr → Tr → Prop} {v : Int} {d : Nat} {Q : Mem → Prop}
theorem depM_pos {N a : Int} (hT : TM M N) (ha : 0 ≤ a ∧ a < N) : 1 ≤ dep (vM M a) := by
  rw [vM_eq hT ha, dep_nd]
  have := dep_nn (vM M (M 5 (2 * a)))
  have := dep_nn (vM M (M 5 (2 * a + 1)))
  split <;> omega
theorem BM_d (h : BM C K x y σ prog M d) : (0 : Int) ≤ d ∧ (d : Int) ≤ 163 := by
  obtain ⟨h1, h2, h3, h4, h5, h6, h7, h8⟩ := h
  have hu := h1.2.2.1
  have := depM_pos h1.1.2.1 h3
  rw [h5] at this
  omega
/-- a pair is laid on the stack -/
theorem m_goesTo {e a b : Int} (ho : M 0 27 = e) (he : 0 ≤ e ∧ e < 256) (k : ∀ M2, (∀ c : Nat, c ≠ 0 → c ≠ 18 → c ≠ 19 → c ≠ 20 → M2 c = M c) → (∀ i, i ≠ 27 → M2 0 i = M 0 i) → M2 0 27 = e + 1 → (∀ i, M2 18 i = if i = e then a else M 18 i) → (∀ i, M2 19 i = if i = e then b else M 19 i) → (∀ i, M2 20 i = if i = e then 0 else M 20 i) → Q M2) : w_X4_goesTo M a b Q := by
  unfold w_X4_goesTo
  rw [ho]
  have s1 : (up M 18 e a) 0 27 = e := by rw [up_off (by decide)]; exact ho
  rw [s1]
  have s2 : (up (up M 18 e a) 19 e b) 0 27 = e := by rw [up_off (by decide)]; exact s1
  rw [s2]
  have s3 : (up (up (up M 18 e a) 19 e b) 20 e 0) 0 27 = e := by rw [up_off (by decide)]; exact s2
  rw [s3]
  refine ⟨he, he, he, by unfold rg; omega, k _ (fun c c0 c18 c19 c20 => by rw [up_off c0, up_off c20, up_off c19, up_off c18]) (fun i hi => ?_) (by simp [up]) (fun i => ?_) (fun i => ?_) (fun i => ?_)⟩
  · simp [up, hi]
  · simp [up]
  · simp [up]
  · simp [up]
/-- the last pair needs no judging -/
theorem m_leaves (h : BM C K x y σ prog M d) (hv : v = 0 ∨ v = 1) (k : ∀ M2, SM C K σ prog M2 → M2 0 27 = d → M2 0 31 = v → fbM d M M2 → extM M M2 → Q M2) : w_X4_leaves M v Q := by
  have hd := BM_d h
  obtain ⟨h1, h2, h3, h4, h5, h6, h7, h8⟩ := h
  unfold w_X4_leaves
  rw [show M 0 27 - 1 = (d : Int) by omega]
  refine ⟨by unfold rg; omega, hv, ?_⟩
  generalize hM2 : up (up M 0 27 (d : Int)) 0 31 v = M2
  have kc : ∀ c : Nat, c ≠ 0 → M2 c = M c := fun c c0 => by rw [← hM2, up_off c0, up_off c0]
  have k0 : ∀ i, i ≠ 27 → i ≠ 31 → M2 0 i = M 0 i := fun i a b => by rw [← hM2]; simp [up, a, b]
  have hs : mside M M2 := ⟨fun c hc => kc c (by omega), fun i hi => k0 i (by omega) (by omega)⟩
  refine k M2 (SM_side h1 hs (kc 16 (by decide)) (fun i i0 i1 => k0 i (by omega) (by omega))) (by rw [← hM2]; simp [up]) (by rw [← hM2]; simp [up]) (fun i _ _ => by rw [kc 18 (by decide), kc 19 (by decide), kc 20 (by decide)]; exact ⟨rfl, rfl, rfl⟩) (mside_ext hs)
/-- the last pair is left: SPENT -/
theorem m_leavesS (ho : M 0 27 = d + 1) (hd : (d : Int) ≤ 163) (h : SS C K M) (k : ∀ M2, SS C K M2 → M2 0 27 = d → M2 0 31 = 0 → fbM d M M2 → Q M2) : w_X4_leaves M 0 Q := by
  unfold w_X4_leaves
  rw [show M 0 27 - 1 = (d : Int) by omega]
  refine ⟨by unfold rg; omega, Or.inl rfl, ?_⟩
  generalize hM2 : up (up M 0 27 (d : Int)) 0 31 0 = M2
  have kc : ∀ c : Nat, c ≠ 0 → M2 c = M c := fun c c0 => by rw [← hM2, up_off c0, up_off c0]
  have k0 : ∀ i, i ≠ 27 → i ≠ 31 → M2 0 i = M 0 i := fun i a b => by rw [← hM2]; simp [up, a, b]
  have hs : mside M M2 := ⟨fun c hc => kc c (by omega), fun i hi => k0 i (by omega) (by omega)⟩
  refine k M2 ⟨XW_side hs h.1, by rw [k0 23 (by decide) (by decide)]; exact h.2.1, by rw [k0 24 (by decide) (by decide)]; exact h.2.2.1, by rw [kc 16 (by decide)]; exact h.2.2.2⟩ (by rw [← hM2]; simp [up]) (by rw [← hM2]; simp [up]) (fun i _ _ => by rw [kc 18 (by decide), kc 19 (by decide), kc 20 (by decide)]; exact ⟨rfl, rfl, rfl⟩)
/-- the last pair is judged: what is written -/
theorem m_endsW {a b : Int} (ho : M 0 27 = d + 1) (hd : (d : Int) ≤ 163) (ea : M 18 d = a) (eb : M 19 d = b) (ha : 0 ≤ a ∧ a < 740) (hb : 0 ≤ b ∧ b < 740) (hK : M 0 24 = K) (hK2 : 1 ≤ K ∧ K ≤ 1000) (hv : v = 0 ∨ v = 1) (k : ∀ M2 : Mem, (∀ c : Nat, c ≠ 0 → c ≠ 16 → M2 c = M c) → (∀ i, i ≠ 27 → i ≠ 31 → M2 0 i = M 0 i) → M2 0 27 = (d : Int) → M2 0 31 = v → (∀ i, M2 16 i = if i = 740 * a + b then 2 * K + v else M 16 i) → Q M2) : w_X4_ends M v Q := by
  unfold w_X4_ends
  rw [show M 0 27 - 1 = (d : Int) by omega]
  generalize hM1 : up M 0 27 (d : Int) = M1
  have e27 : M1 0 27 = d := by rw [← hM1]; simp [up]
  have k1 : ∀ c : Nat, c ≠ 0 → M1 c = M c := fun c c0 => by rw [← hM1, up_off c0]
  have k0 : ∀ i, i ≠ 27 → M1 0 i = M 0 i := fun i hi => by rw [← hM1]; simp [up, hi]
  rw [e27, k1 18 (by decide), k1 19 (by decide), ea, eb, k0 24 (by decide), hK]
  refine ⟨by unfold rg; omega, by omega, by unfold rg; omega, by omega, by unfold rg; omega, by unfold rg; omega, ?_⟩
  have fin : ∀ M2, M2 = up (up M1 16 (740 * a + b) (2 * K + v)) 0 31 v → Q M2 := fun M2 hM2 => by
    refine k M2 (fun c c0 c16 => by rw [hM2, up_off c0, up_off c16, k1 c c0]) (fun i h27 h31 => ?_) ?_ (by rw [hM2]; simp [up]) (fun i => ?_)
    · rw [hM2]
      have := k0 i h27
      simp [up, h31, this]
    · rw [hM2]
      simp [up, e27]
    · rw [hM2, up_off (by decide), up_at, k1 16 (by decide)]
  rcases hv with e | e
  · subst e
    exact ⟨fun _ => ⟨by unfold rg; omega, by omega, Or.inl rfl, fin _ rfl⟩, fun z => absurd rfl z⟩
  · subst e
    exact ⟨fun z => absurd z (by decide), fun _ => ⟨by unfold rg; omega, by omega, Or.inr rfl, fin _ rfl⟩⟩
theorem m_ends (hK : 1 ≤ K ∧ K ≤ 1000) (h : BM C K x y σ (PR prog x y) M d) (hv : v = 0 ∨ v = 1) (k : ∀ M2, SM C K (mst σ.1 x y (v + 1), σ.2.1, σ.2.2.1, σ.2.2.2.1, σ.2.2.2.2) prog M2 → M2 0 27 = d → M2 0 31 = v → fbM d M M2 → extM M M2 → Q M2) : w_X4_ends M v Q := by
  have hd := BM_d h
  obtain ⟨h1, h2, h3, h4, h5, h6, h7, h8⟩ := h
  have h740 := h1.1.2.1.2.1
  refine m_endsW h2 hd.2 rfl rfl (by omega) (by omega) h1.2.2.2.1.2.2.2.2.2 hK hv (fun M2 kc k0 k27 k31 k16 => ?_)
  have hs : mside M M2 := ⟨fun c hc => kc c (by omega) (by omega), fun i hi => k0 i (by omega) (by omega)⟩
  exact k M2 (SM_end h1 h3 h4 h5 h6 hv hs k16 (fun i i0 i1 => k0 i (by omega) (by omega))) k27 k31 (fun i _ _ => by rw [kc 18 (by decide) (by decide), kc 19 (by decide) (by decide), kc 20 (by decide) (by decide)]; exact ⟨rfl, rfl, rfl⟩) (mside_ext hs)
/-- and where the check is SPENT -/
theorem m_endsS (hK : 1 ≤ K ∧ K ≤ 1000) (ho : M 0 27 = d + 1) (hd : (d : Int) ≤ 163) (ha : 0 ≤ M 18 d ∧ M 18 d < 740) (hb : 0 ≤ M 19 d ∧ M 19 d < 740) (h : SS C K M) (k : ∀ M2, SS C K M2 → M2 0 27 = d → M2 0 31 = 0 → fbM d M M2 → Q M2) : w_X4_ends M 0 Q := by
  refine m_endsW ho hd rfl rfl ha hb h.2.2.1 hK (Or.inl rfl) (fun M2 kc k0 k27 k31 k16 => ?_)
  have hs : mside M M2 := ⟨fun c hc => kc c (by omega) (by omega), fun i hi => k0 i (by omega) (by omega)⟩
  refine k M2 ⟨XW_side hs h.1, by rw [k0 23 (by decide) (by decide)]; exact h.2.1, by rw [k0 24 (by decide) (by decide)]; exact h.2.2.1, fun i i0 i1 => ?_⟩ k27 k31 (fun i _ _ => by rw [kc 18 (by decide) (by decide), kc 19 (by decide) (by decide), kc 20 (by decide) (by decide)]; exact ⟨rfl, rfl, rfl⟩)
  rw [k16]
  have := h.2.2.2 i i0 i1
  by_cases c : i = 740 * M 18 d + M 19 d
  · rw [if_pos c]
    omega
  · rw [if_neg c]
    exact this
/-- a pair of parts is laid on the stack -/
theorem m_toPart {i : Int} {f : Nat} {p1 p2 q1 q2 : Tr} (hi : i = 0 ∨ i = 1) (ex : x = nd f p1 p2) (ey : y = nd f q1 q2) (hf : f < 100) (har : i < C 12 f) (h : BM C K x y σ prog M d) (k : ∀ M2, BM C K (if i = 0 then p1 else p2) (if i = 0 then q1 else q2) σ prog M2 (d + 1) → M2 20 ((d + 1 : Nat) : Int) = 0 → M2 20 d = 1 + i → M2 18 d = M 18 d → M2 19 d = M 19 d → fbM d M M2 → extM M M2 → Q M2) : w_X4_goesToPart M i Q := by
  have hd := BM_d h
  obtain ⟨h1, h2, h3, h4, h5, h6, h7, h8⟩ := h
  have h740 := h1.1.2.1.2.1
  obtain ⟨a4, a5, a6, afn, a5a, a5b, a6a, a6b⟩ := XM_node h1.1 h3 (h5.trans ex) hf
  obtain ⟨b4, b5, b6, bfn, b5a, b5b, b6a, b6b⟩ := XM_node h1.1 h4 (h6.trans ey) hf
  unfold w_X4_goesToPart
  rw [show M 0 27 - 1 = (d : Int) by omega]
  generalize hM1 : up M 20 (d : Int) (1 + i) = M1
  have k1 : ∀ c : Nat, c ≠ 20 → M1 c = M c := fun c c0 => by rw [← hM1, up_off c0]
  have k20 : ∀ j, M1 20 j = if j = d then 1 + i else M 20 j := fun j => by rw [← hM1]; simp [up]
  rw [k1 18 (by decide)]
  refine ⟨by unfold rg; omega, by unfold rg; omega, by omega, by omega, m_part (by omega) hi ⟨by omega, ?_⟩⟩
  rw [k1 19 (by decide)]
  refine m_part (by omega) hi (m_goesTo (e := (d : Int) + 1) (by rw [k1 0 (by decide)]; exact h2) (by omega) (fun M2 kc k0 k27 k18 k19 k20' => ?_))
  have hc : ∀ c : Nat, c ≠ 0 → c ≠ 18 → c ≠ 19 → c ≠ 20 → M2 c = M c := fun c c0 c18 c19 c20 => (kc c c0 c18 c19 c20).trans (k1 c c20)
  have h0 : ∀ j, j ≠ 27 → M2 0 j = M 0 j := fun j hj => by rw [k0 j hj, k1 0 (by decide)]
  have hs : mside M M2 := ⟨fun c hcc => hc c (by omega) (by omega) (by omega) (by omega), fun j hj => h0 j (by omega)⟩
  have e5 : M2 0 5 = M 0 5 := h0 5 (by decide)
  have e18 : M2 18 ((d + 1 : Nat) : Int) = M 5 (2 * M 18 d + i) := by rw [k18, if_pos (by omega), k1 5 (by decide)]
  have e19 : M2 19 ((d + 1 : Nat) : Int) = M 5 (2 * M 19 d + i) := by rw [k19, if_pos (by omega), k1 5 (by decide)]
  have px : dep (if i = 0 then p1 else p2) + 1 ≤ dep x := by rw [ex]; exact part_dep p1 p2 f
  have py : dep (if i = 0 then q1 else q2) + 1 ≤ dep y := by rw [ey]; exact part_dep q1 q2 f
  refine k M2 ⟨SM_side h1 hs (hc 16 (by decide) (by decide) (by decide) (by decide)) (fun j j0 j1 => h0 j (by omega)), by omega, ?_, ?_, ?_, ?_, by omega, by omega⟩ (by rw [k20', if_pos (by omega)]) (by rw [k20', if_neg (by omega), k20, if_pos rfl]) (by rw [k18, if_neg (by omega), k1 18 (by decide)]) (by rw [k19, if_neg (by omega), k1 19 (by decide)]) (fun j j0 j1 => ?_) (mside_ext hs)
  · rw [e18, e5]
    rcases hi with e | e
    · rw [e, Int.add_zero]
      exact a5b (by omega)
    · rw [e]
      exact a6b (by omega)
  · rw [e19, e5]
    rcases hi with e | e
    · rw [e, Int.add_zero]
      exact b5b (by omega)
    · rw [e]
      exact b6b (by omega)
  · rw [e18, mside_vM hs]
    rcases hi with e | e
    · rw [e, Int.add_zero, if_pos rfl]
      exact a5
    · rw [e, if_neg (by decide)]
      exact a6
  · rw [e19, mside_vM hs]
    rcases hi with e | e
    · rw [e, Int.add_zero, if_pos rfl]
      exact b5
    · rw [e, if_neg (by decide)]
      exact b6
  · rw [k18, k19, k20', if_neg (by omega), if_neg (by omega), if_neg (by omega), k20, if_neg (by omega), k1 18 (by decide), k1 19 (by decide)]
    exact ⟨rfl, rfl, rfl⟩
/-- behind a child of the last pair: the pair stands there as it did -/
theorem BM_after {M2 : Mem} (h : BM C K x y σ prog M d) (h2 : SM C K σ1 prog M2) (ho : M2 0 27 = ((d + 1 : Nat) : Int)) (h18 : M2 18 d = M 18 d) (h19 : M2 19 d = M 19 d) (he : extM M M2) (hu : σ.2.1 ≤ σ1.2.1) : BM C K x y σ1 prog M2 d := by
  obtain ⟨g1, g2, g3, g4, g5, g6, g7, g8⟩ := h
  have hT := g1.1.2.1
  have l9 := he.1
  refine ⟨h2, by omega, by rw [h18]; omega, by rw [h19]; omega, ?_, ?_, by omega, by omega⟩
  · rw [h18, extM_vM he hT g3.2]
    exact g5
  · rw [h19, extM_vM he hT g4.2]
    exact g6
/-- one or both are unfolded, and what comes is laid on the stack -/
theorem m_some (hI : InvC C) (hK : 1 ≤ K ∧ K ≤ 1000) {ax ay more : Int} {x' y' : Tr} (ham : (ax = 1 ∧ ay = 1 ∧ more = 2) ∨ (ax = 1 ∧ ay = 0 ∧ more = 1) ∨ (ax = 0 ∧ ay = 1 ∧ more = 1))
    (hx1 : ax = 1 → ∃ f p q, x = nd f p q ∧ foldN C f ∧ x' = sub p q (dfn C f)) (hx0 : ax = 0 → x' = x) (hy1 : ay = 1 → ∃ f p q, y = nd f p q ∧ foldN C f ∧ y' = sub p q (dfn C f)) (hy0 : ay = 0 → y' = y)
    (h : BM C K x y σ prog M d) (hs : 40 < σ.2.1 + more → ∀ M2, SS C K M2 → M2 0 27 = d → M2 0 31 = 0 → fbM d M M2 → Q M2)
    (k : σ.2.1 + more ≤ 40 → ∀ M2, BM C K x' y' (σ.1, σ.2.1 + more, σ.2.2.1, σ.2.2.2.1, σ.2.2.2.2) prog M2 (d + 1) → M2 20 ((d + 1 : Nat) : Int) = 0 → M2 20 d = 9 → M2 18 d = M 18 d → M2 19 d = M 19 d → fbM d M M2 → extM M M2 → Q M2) : w_X4_unfoldsSome M ax ay Q := by
  have hd := BM_d h
  obtain ⟨h1, h2, h3, h4, h5, h6, h7, h8⟩ := id h
  have h740 := h1.1.2.1.2.1
  have hu := h1.2.2.1
  have h95 := h1.2.1
  obtain ⟨g19, g20, g21, g22, g23, g24⟩ := h1.2.2.2.1
  have dx : dep x' ≤ dep x + 3 := by
    by_cases c : ax = 1
    · obtain ⟨f, p, q, e1, e2, e3⟩ := hx1 c
      rw [e3, e1]
      exact dep_unf hI e2
    · rw [hx0 (by omega)]
      omega
  have dy : dep y' ≤ dep y + 3 := by
    by_cases c : ay = 1
    · obtain ⟨f, p, q, e1, e2, e3⟩ := hy1 c
      rw [e3, e1]
      exact dep_unf hI e2
    · rw [hy0 (by omega)]
      omega
  have j14 : w_X4_unfoldsSome_J14 Q M ax ay more := by
    unfold w_X4_unfoldsSome_J14
    refine ⟨fun z => absurd g23 z, fun _ => ⟨by unfold rg; omega, fun hle => ⟨Or.inl rfl, fun z => absurd (by simp [up]) z, fun _ => ⟨fun _ => ?_, fun z => absurd z (by decide)⟩⟩, fun hgt => ⟨Or.inr rfl, fun _ => ⟨fun z => absurd rfl z, fun _ => ?_⟩, fun z => absurd z (by simp [up])⟩⟩⟩
    · rw [g19] at hle
      generalize hM1 : up M 0 23 0 = M1
      have k1 : ∀ c : Nat, c ≠ 0 → M1 c = M c := fun c c0 => by rw [← hM1, up_off c0]
      have k0 : ∀ i, M1 0 i = M 0 i := fun i => by
        rw [← hM1, up_at]
        show (if i = 23 then 0 else M 0 i) = M 0 i
        by_cases c : i = 23
        · rw [if_pos c, c, g23]
        · rw [if_neg c]
      rw [k0 27, show M 0 27 - 1 = (d : Int) by omega]
      generalize hM2 : up M1 20 (d : Int) 9 = M2
      have c2 : ∀ c : Nat, c ≠ 0 → c ≠ 20 → M2 c = M c := fun c c0 c20 => by rw [← hM2, up_off c20, k1 c c0]
      have z2 : ∀ i, M2 0 i = M 0 i := fun i => by rw [← hM2, up_off (by decide), k0]
      have r20 : ∀ i, M2 20 i = if i = d then 9 else M 20 i := fun i => by rw [← hM2, up_at, k1 20 (by decide)]
      rw [z2 27, show M 0 27 - 1 = (d : Int) by omega, c2 18 (by decide) (by decide), c2 19 (by decide) (by decide)]
      refine ⟨by unfold rg; omega, by omega, by unfold rg; omega, by omega, by unfold rg; omega, by omega, ?_⟩
      have hs2 : mside M M2 := ⟨fun c hcc => c2 c (by omega) (by omega), fun i _ => z2 i⟩
      have S2 : SM C K σ prog M2 := SM_side h1 hs2 (c2 16 (by decide) (by decide)) (fun i _ _ => z2 i)
      -- the other one, and the stack
      have j77 : ∀ (M3 : Mem) (a u3 : Int), growsM M2 M3 → XM C M3 → M3 0 5 ≤ M 0 5 + 15 * (u3 - σ.2.1) → M3 0 19 = u3 → u3 = σ.2.1 + ax → 0 ≤ a ∧ a < M3 0 5 → vM M3 a = x' → w_X4_unfoldsSome_J77 Q M3 ay (M 19 d) a := by
        intro M3 a u3 g3 X3 l3 e3 eu3 ha va
        have lg := g3.2.2.1
        rw [z2 5] at lg
        have fin : ∀ (M4 : Mem) (b u4 : Int), growsM M2 M4 → XM C M4 → M4 0 5 ≤ M 0 5 + 15 * (u4 - σ.2.1) → M4 0 19 = u4 → u4 = σ.2.1 + more → 0 ≤ a ∧ a < M4 0 5 → vM M4 a = x' → 0 ≤ b ∧ b < M4 0 5 → vM M4 b = y' → w_X4_goesTo M4 a b Q := by
          intro M4 b u4 g4 X4 l4 e4 eu4 ha4 va4 hb4 vb4
          have S4 := SM_grows S2 g4 X4 (u' := u4) (by omega) (by omega) e4
          have p27 : M4 0 27 = ((d + 1 : Nat) : Int) := by rw [g4.2.1 27 (by decide) (by decide) (by decide), z2, h2]; omega
          refine m_goesTo p27 (by omega) (fun M5 kc k0' k27 k18 k19 k20 => ?_)
          have hs5 : mside M4 M5 := ⟨fun c hcc => kc c (by omega) (by omega) (by omega) (by omega), fun i hi => k0' i (by omega)⟩
          have e5 : M5 0 5 = M4 0 5 := k0' 5 (by decide)
          have e18 : M5 18 ((d + 1 : Nat) : Int) = a := by rw [k18, if_pos rfl]
          have e19 : M5 19 ((d + 1 : Nat) : Int) = b := by rw [k19, if_pos rfl]
          have w18 : M4 18 = M 18 := (g4.1 18 (by decide) (by decide) (by decide) (by decide) (by decide) (by decide)).trans (c2 18 (by decide) (by decide))
          have w19 : M4 19 = M 19 := (g4.1 19 (by decide) (by decide) (by decide) (by decide) (by decide) (by decide)).trans (c2 19 (by decide) (by decide))
          have w20 : ∀ i, M4 20 i = if i = d then 9 else M 20 i := fun i => by rw [g4.1 20 (by decide) (by decide) (by decide) (by decide) (by decide) (by decide), r20]
          refine k (by omega) M5 ⟨?_, by omega, by rw [e18, e5]; exact ha4, by rw [e19, e5]; exact hb4, by rw [e18, mside_vM hs5]; exact va4, by rw [e19, mside_vM hs5]; exact vb4, ?_, ?_⟩ (by rw [k20, if_pos rfl]) (by rw [k20, if_neg (by omega), w20, if_pos rfl]) (by rw [k18, if_neg (by omega), w18]) (by rw [k19, if_neg (by omega), w19]) (fun i i0 i1 => ?_) (((mside_ext hs2).tr (growsM_ext g4)).tr (mside_ext hs5))
          · rw [eu4] at S4
            exact SM_side S4 hs5 (kc 16 (by decide) (by decide) (by decide) (by decide)) (fun i i0 i1 => k0' i (by omega))
          · show ((d + 1 : Nat) : Int) + dep x' ≤ 4 + 4 * (σ.2.1 + more)
            omega
          · show ((d + 1 : Nat) : Int) + dep y' ≤ 4 + 4 * (σ.2.1 + more)
            omega
          · rw [k18, k19, k20, if_neg (by omega), if_neg (by omega), if_neg (by omega), w18, w19, w20, if_neg (by omega)]
            exact ⟨rfl, rfl, rfl⟩
        have hb3 : 0 ≤ M 19 d ∧ M 19 d < M3 0 5 := by omega
        have vb3 : vM M3 (M 19 d) = y := by rw [growsM_vM g3 S2.1.2.1 (by rw [z2 5]; exact h4.2), mside_vM hs2]; exact h6
        refine ⟨fun c => fin M3 (M 19 d) u3 g3 X3 l3 e3 (by omega) ha va hb3 (by rw [vb3, hy0 c]), fun c => ?_⟩
        obtain ⟨f, p, q, ey, ff, ey'⟩ := hy1 (by omega)
        refine m_unf hI X3 hb3 (vb3.trans ey) ff (by omega) (by omega) (fun M4 r g4 l4 X4 e4 hr hv => ?_)
        have lg4 := g4.2.2.1
        exact fin M4 r (u3 + 1) (g3.tr g4) X4 (by omega) (by omega) (by omega) (by omega) (by rw [growsM_vM g4 X3.2.1 ha.2]; exact va) hr (by rw [hv, ey'])
      have ha2 : 0 ≤ M 18 d ∧ M 18 d < M2 0 5 := by rw [z2 5]; exact h3
      have va2 : vM M2 (M 18 d) = x := by rw [mside_vM hs2]; exact h5
      refine ⟨fun c => j77 M2 (M 18 d) σ.2.1 growsM.rf S2.1 (by rw [z2 5]; omega) (by rw [z2 19]; exact g19) (by omega) ha2 (by rw [va2, hx0 c]), fun c => ?_⟩
      obtain ⟨f, p, q, ex, ff, ex'⟩ := hx1 (by omega)
      refine m_unf hI S2.1 ha2 (va2.trans ex) ff (by rw [z2 5]; omega) (by rw [z2 19]; omega) (fun M3 r g3 l3 X3 e3 hr hv => ?_)
      rw [z2 5] at l3
      rw [z2 19] at e3
      exact j77 M3 r (σ.2.1 + 1) g3 X3 (by omega) (by omega) (by omega) hr (by rw [hv, ex'])
    · rw [g19] at hgt
      generalize hM1 : up M 0 23 1 = M1
      have k1 : ∀ c : Nat, c ≠ 0 → M1 c = M c := fun c c0 => by rw [← hM1, up_off c0]
      have k0 : ∀ i, i ≠ 23 → M1 0 i = M 0 i := fun i hi => by rw [← hM1]; simp [up, hi]
      have hs1 : mside M M1 := ⟨fun c hcc => k1 c (by omega), fun i hi => k0 i (by omega)⟩
      refine m_leavesS (d := d) (by rw [k0 27 (by decide)]; exact h2) hd.2 ⟨XW_side hs1 h1.1.1, by rw [← hM1]; simp [up], by rw [k0 24 (by decide)]; exact g24, by rw [k1 16 (by decide)]; exact SM_16 h1 hK.1⟩ (fun M3 s3 o3 a3 f3 => hs (by omega) M3 s3 o3 a3 ?_)
      intro i i0 i1
      have q := f3 i i0 i1
      rw [k1 18 (by decide), k1 19 (by decide), k1 20 (by decide)] at q
      exact q
  have j13 : more = 1 → w_X4_unfoldsSome_J13 Q M ax ay := fun e => by
    unfold w_X4_unfoldsSome_J13
    rw [e] at j14
    exact j14
  refine ⟨fun c => j13 (by omega), fun c => ⟨fun c2 => j13 (by omega), fun c2 => ?_⟩⟩
  have e : more = 2 := by omega
  rw [e] at j14
  exact j14
end H
