/-! the class within a check: unfolding, parts -/
section H
variable {C M : Mem} {mm : Tr → Tr → Int} {u j c1 c2 : Int} {prog : Tr → Tr → Prop} {d a b v : Int} {Q : Int → Mem → Prop}
/-- a held term whose tree has a name in front -/
theorem XC_node (hI : InvC C) (h : XC C M) (ha : 0 ≤ a ∧ a < M 1 9) {f : Nat} {p q : Tr} (e : vC M a = nd f p q) (hf : f < 100) : M 4 a = f ∧ vC M (M 5 a) = p ∧ vC M (M 6 a) = q ∧ (f : Int) < C 2 7 ∧ (C 12 f < 1 → M 5 a = -9) ∧ (1 ≤ C 12 f → 0 ≤ M 5 a ∧ M 5 a < M 1 9) ∧ (C 12 f < 2 → M 6 a = -9) ∧ (2 ≤ C 12 f → 0 ≤ M 6 a ∧ M 6 a < M 1 9) := by
  have hT := h.2.2.2.2.2.2
  have e2 : M 2 = C 2 := h.1 2 (by omega)
  have e12 : M 12 = C 12 := h.1 12 (by omega)
  have h12 : M 2 7 ≤ 12 := by rw [e2]; exact hI.1.2.1
  have hfr := hT.fr ha.1 ha.2 h12
  rw [vC_eq hT ha.1 ha.2] at e
  obtain ⟨q1, q2, q3⟩ := nd_inj e
  have e4 : M 4 a = f := by omega
  rcases hT.1 a ha.1 ha.2 with g | ⟨p1, p2, p3, p4, p5⟩
  · omega
  · rw [e4, e2] at p1
    rw [e4, e12] at p2 p3 p4 p5
    refine ⟨e4, q2, q3, p1.2, p2, fun z => ?_, p4, fun z => ?_⟩
    · have := p3 z; omega
    · have := p5 z; omega
theorem g_unf1 (hI : InvC C) (h : XC C M) (ha : 0 ≤ a ∧ a < M 1 9) {f : Nat} {p q : Tr} (e : vC M a = nd f p q) (hf : foldN C f) (hcap : M 1 9 + 7 ≤ 370)
    (k : ∀ (M' : Mem) (r : Int), grows M M' → M' 1 9 ≤ M 1 9 + 7 → XC C M' → 0 ≤ r ∧ r < M' 1 9 → vC M' r = sub p q (dfn C f) → Q r M') : w_X0_unfolded M a Q := by
  obtain ⟨e4, e5, e6, hfn, n5, n5', n6, n6'⟩ := XC_node hI h ha e hf.1
  obtain ⟨hm, hok⟩ := dfn_ok hI hf
  have h12 : M 2 7 ≤ 12 := by rw [h.1 2 (by omega)]; exact hI.1.2.1
  have h370 := h.2.2.2.2.2.1
  refine h_front h370 ha ?_
  rw [e4]
  refine h_def h12 (by rw [h.1 2 (by omega)]; omega) ?_
  rw [h.1 13 (by omega)]
  refine h_part0 h370 ha (h_part1 h370 ha ?_)
  have hd := hI.2.2.2.1 _ hm.1 hm.2
  have hd4 : dep (vC C (C 13 f)) ≤ 4 := by
    have := hd.1
    have := hd.2.1
    omega
  refine h_filled hI 4 6 (by decide) M (C 13 f) 1 _ h hm hd4 (by decide) (by omega) (by show M 1 9 + 7 ≤ 370; exact hcap) (fun z => ?_) (fun z => ?_) (fun M' r g1 g2 g3 g4 g5 => k M' r g1 g2 g3 g4 ?_)
  · have := occ_pos_all _ hok z
    unfold okd at this
    exact n5' (by omega)
  · have := occ_pos_all _ hok z
    unfold okd at this
    exact n6' (by omega)
  · rw [g5, e5, e6]
    rfl
/-- one or both are unfolded; then what comes is met -/
theorem g_unfold (hI : InvC C) {ax ay more : Int} {x' y' : Tr} (hm : (ax = 1 ∧ ay = 1 ∧ more = 2) ∨ (ax = 1 ∧ ay = 0 ∧ more = 1) ∨ (ax = 0 ∧ ay = 1 ∧ more = 1)) (h : SC C mm u j c1 c2 prog M) (ho : M 3 6 = d + 1) (hd : 0 ≤ d ∧ d ≤ 163) (ha : 0 ≤ M 23 d ∧ M 23 d < M 1 9) (hb : 0 ≤ M 24 d ∧ M 24 d < M 1 9)
    (hx1 : ax = 1 → ∃ f p q, vC M (M 23 d) = nd f p q ∧ foldN C f ∧ x' = sub p q (dfn C f)) (hx0 : ax = 0 → x' = vC M (M 23 d)) (hy1 : ay = 1 → ∃ f p q, vC M (M 24 d) = nd f p q ∧ foldN C f ∧ y' = sub p q (dfn C f)) (hy0 : ay = 0 → y' = vC M (M 24 d))
    (hs : 40 < u + more → Q (-6) M)
    (k : u + more ≤ 40 → ∀ (M2 : Mem) (a' b' : Int), SC C mm (u + more) j c1 c2 prog M2 → M2 3 6 = d + 1 → M2 23 d = M 23 d → M2 24 d = M 24 d → M2 25 d = 2 → fb d M M2 → ext M M2 → 0 ≤ a' ∧ a' < M2 1 9 → 0 ≤ b' ∧ b' < M2 1 9 → vC M2 a' = x' → vC M2 b' = y' → w_X0_meet M2 a' b' Q) : w_X0_unfold M ax ay Q := by
  obtain ⟨hX, g1, g2, ⟨g3, g3', g3'', g3'''⟩, g4, g5, g6, hL⟩ := id h
  -- after the counter and the mark
  have j13 : w_X0_unfold_J13 Q M ax ay more := by
    unfold w_X0_unfold_J13
    rw [g3]
    refine ⟨by unfold rg; omega, fun hle => ⟨by unfold rg; omega, ?_⟩, fun hgt => hs (by omega)⟩
    have ho1 : (up M 3 7 (u + more)) 3 6 = d + 1 := by simp [up, ho]
    refine l_set ho1 hd ?_
    generalize hM1 : up (up M 3 7 (u + more)) 25 d 2 = M1
    have ko : ∀ c : Nat, c ≠ 3 → c ≠ 25 → M1 c = M c := fun c c3 c25 => by rw [← hM1, up_off c25, up_off c3]
    have k3 : ∀ i, i ≠ 7 → M1 3 i = M 3 i := fun i hi => by rw [← hM1]; simp [up, hi]
    have k37 : M1 3 7 = u + more := by rw [← hM1]; simp [up]
    have k25 : ∀ i, M1 25 i = if i = d then 2 else M 25 i := fun i => by rw [← hM1]; simp [up]
    have e1 : M1 1 = M 1 := ko 1 (by decide) (by decide)
    have ev : ∀ x, vC M1 x = vC M x := fun x => by
      unfold vC
      rw [ko 4 (by decide) (by decide), ko 5 (by decide) (by decide), ko 6 (by decide) (by decide)]
    have h1 : SC C mm (u + more) j c1 c2 prog M1 := by
      have hX1 : XC C M1 := by
        obtain ⟨x1, x2, x3, x4, x5, x6, x7⟩ := hX
        refine ⟨fun c hcc => by rw [ko c (by omega) (by omega)]; exact x1 c hcc, by rw [e1]; exact x2, by rw [k3 12 (by decide)]; exact x3, ?_, by rw [e1]; exact x5, by rw [e1]; exact x6, ?_⟩
        · rw [ko 4 (by decide) (by decide), ko 5 (by decide) (by decide), ko 6 (by decide) (by decide)]
          exact x4
        · unfold TB tnode
          rw [e1, ko 2 (by decide) (by decide), ko 4 (by decide) (by decide), ko 5 (by decide) (by decide), ko 6 (by decide) (by decide), ko 12 (by decide) (by decide)]
          exact x7
      obtain ⟨L, l1, l2, l3⟩ := hL
      refine ⟨hX1, by rw [e1]; omega, by omega, ⟨k37, by rw [k3 8 (by decide)]; exact g3', by rw [k3 9 (by decide)]; exact g3'', by rw [k3 10 (by decide)]; exact g3'''⟩, fun p r => ?_, fun p r => ?_, fun p r hpr => ?_, L, l1, l2, fun n hn => ?_⟩
      · rw [e1, jv_cell (ko 22 (by decide) (by decide)), ev, ev]
        exact g4 p r
      · rw [e1, jv_cell (ko 22 (by decide) (by decide))]
        exact g5 p r
      · rw [e1]
        obtain ⟨w, x, y, hx, hy, ex, ey⟩ := g6 p r hpr
        exact ⟨w, x, y, hx, hy, by rw [ev]; exact ex, by rw [ev]; exact ey⟩
      · rw [e1]
        obtain ⟨x, y, hx, hy, e, o⟩ := l3 n hn
        exact ⟨x, y, hx, hy, e, by rw [ev, ev]; exact o⟩
    have hX1 := h1.1
    have o1 : M1 3 6 = d + 1 := by rw [k3 6 (by decide)]; exact ho
    have f23 : M1 23 = M 23 := ko 23 (by decide) (by decide)
    have f24 : M1 24 = M 24 := ko 24 (by decide) (by decide)
    have l1b : M1 1 9 ≤ 90 + 7 * u := by rw [e1]; exact g1
    -- the second half: y
    have j62 : ∀ (M2 : Mem) (a' : Int), grows M1 M2 → XC C M2 → M2 1 9 ≤ M1 1 9 + 7 * (more - (if ay = 1 then 1 else 0)) → 0 ≤ a' ∧ a' < M2 1 9 → vC M2 a' = x' → w_X0_unfold_J62 Q M2 ay a' := by
      intro M2 a' gr x2 bd ha' va'
      have lg := gr.2.2.1
      have e3 : M2 3 = M1 3 := gr.1 3 (by decide) (by decide) (by decide) (by decide)
      have o2 : M2 3 6 = d + 1 := by rw [e3]; exact o1
      have r23 : M2 23 = M 23 := by rw [gr.1 23 (by decide) (by decide) (by decide) (by decide), f23]
      have r24 : M2 24 = M 24 := by rw [gr.1 24 (by decide) (by decide) (by decide) (by decide), f24]
      have r25 : M2 25 = M1 25 := gr.1 25 (by decide) (by decide) (by decide) (by decide)
      have hbM : 0 ≤ M 24 d ∧ M 24 d < M2 1 9 := by rw [e1] at lg; omega
      have vb : vC M2 (M 24 d) = vC M (M 24 d) := by rw [grows_vC gr hX1.2.2.2.2.2.2 (by rw [e1]; exact hb.2), ev]
      have fin : ∀ (M3 : Mem) (b' : Int), grows M2 M3 → XC C M3 → M3 1 9 ≤ 90 + 7 * (u + more) → 0 ≤ b' ∧ b' < M3 1 9 → vC M3 b' = y' → w_X0_meet M3 a' b' Q := by
        intro M3 b' gr3 x3 bd3 hb' vb'
        have gt := gr.tr gr3
        have lg3 := gr3.2.2.1
        refine k hle M3 a' b' (SC_grows hI h1 gt x3 bd3 (by omega) k37) ?_ ?_ ?_ ?_ (fun i i0 i1 => ?_) ⟨?_, fun i i0 i1 => ?_⟩ (by omega) hb' ?_ vb'
        · rw [gt.1 3 (by decide) (by decide) (by decide) (by decide)]
          exact o1
        · rw [gt.1 23 (by decide) (by decide) (by decide) (by decide), f23]
        · rw [gt.1 24 (by decide) (by decide) (by decide) (by decide), f24]
        · rw [gt.1 25 (by decide) (by decide) (by decide) (by decide), k25, if_pos rfl]
        · rw [gt.1 23 (by decide) (by decide) (by decide) (by decide), gt.1 24 (by decide) (by decide) (by decide) (by decide), gt.1 25 (by decide) (by decide) (by decide) (by decide), f23, f24, k25, if_neg (by omega)]
          exact ⟨rfl, rfl, rfl⟩
        · rw [← e1]
          exact gt.2.2.1
        · have := gt.2.2.2 i i0 (by rw [e1]; exact i1)
          rw [ko 4 (by decide) (by decide), ko 5 (by decide) (by decide), ko 6 (by decide) (by decide)] at this
          exact this
        · rw [grows_vC gr3 x2.2.2.2.2.2.2 ha'.2]
          exact va'
      refine ⟨fun z => l_Y o2 hd ?_, fun z => l_Y o2 hd ?_⟩
      · rw [r24]
        have hay : ay = 0 := z
        rw [if_neg (by omega)] at bd
        exact fin M2 (M 24 d) grows.rf x2 (by omega) hbM (by rw [vb, hy0 hay])
      · rw [r24]
        have hay : ay = 1 := by omega
        rw [if_pos hay] at bd
        obtain ⟨f, p, q, e, hf, ey⟩ := hy1 hay
        refine g_unf1 hI x2 hbM (by rw [vb]; exact e) hf (by omega) (fun M3 r gr3 bd3 x3 hr vr => fin M3 r gr3 x3 (by omega) hr (by rw [vr, ey]))
    refine ⟨fun z => l_X o1 hd ?_, fun z => l_X o1 hd ?_⟩
    · rw [f23]
      have hax : ax = 0 := z
      refine j62 M1 (M 23 d) grows.rf hX1 (by split <;> omega) (by rw [e1]; exact ha) (by rw [ev, hx0 hax])
    · rw [f23]
      have hax : ax = 1 := by omega
      obtain ⟨f, p, q, e, hf, ex⟩ := hx1 hax
      refine g_unf1 hI hX1 (by rw [e1]; exact ha) (by rw [ev]; exact e) hf (by omega) (fun M2 r gr bd x2 hr vr => j62 M2 r gr x2 (by split <;> omega) hr (by rw [vr, ex]))
  rcases hm with ⟨e1, e2, e3⟩ | ⟨e1, e2, e3⟩ | ⟨e1, e2, e3⟩
  · subst e1
    subst e2
    subst e3
    exact ⟨fun z => absurd z (by decide), fun _ => ⟨fun z => absurd z (by decide), fun _ => j13⟩⟩
  · subst e1
    subst e2
    subst e3
    exact ⟨fun z => absurd z (by decide), fun _ => ⟨fun _ => j13, fun z => absurd rfl z⟩⟩
  · subst e1
    subst e2
    subst e3
    exact ⟨fun _ => j13, fun z => absurd rfl z⟩
/-- the parts i are met -/
theorem g_parts (hI : InvC C) {i : Int} (hi : i = 0 ∨ i = 1) (h : SC C mm u j c1 c2 prog M) (ho : M 3 6 = d + 1) (hd : 0 ≤ d ∧ d ≤ 163) (ha : 0 ≤ M 23 d ∧ M 23 d < M 1 9) (hb : 0 ≤ M 24 d ∧ M 24 d < M 1 9)
    (k : ∀ M2 : Mem, SC C mm u j c1 c2 prog M2 → M2 3 6 = d + 1 → M2 23 d = M 23 d → M2 24 d = M 24 d → M2 25 d = i → fb d M M2 → ext M M2 → (∀ x, vC M2 x = vC M x) → M2 1 9 = M 1 9 → w_X0_meet M2 (if i = 0 then M 5 (M 23 d) else M 6 (M 23 d)) (if i = 0 then M 5 (M 24 d) else M 6 (M 24 d)) Q) : w_X0_meetParts M i Q := by
  refine l_set ho hd ?_
  generalize hM2 : up M 25 d i = M2
  have ko : ∀ c : Nat, c ≠ 25 → M2 c = M c := fun c c25 => by rw [← hM2, up_off c25]
  have k25 : ∀ z, M2 25 z = if z = d then i else M 25 z := fun z => by rw [← hM2]; simp [up]
  have h2 : SC C mm u j c1 c2 prog M2 := SC_stack h (fun c c3 c23 c24 c25 => ko c c25) (fun z _ => by rw [ko 3 (by decide)])
  have o2 : M2 3 6 = d + 1 := by rw [ko 3 (by decide)]; exact ho
  have e1 : M2 1 = M 1 := ko 1 (by decide)
  have h370 : M2 1 9 ≤ 370 := h2.1.2.2.2.2.2.1
  have fin := k M2 h2 o2 (by rw [ko 23 (by decide)]) (by rw [ko 24 (by decide)]) (by rw [k25, if_pos rfl]) (fun z z0 z1 => by rw [ko 23 (by decide), ko 24 (by decide), k25, if_neg (by omega)]; exact ⟨rfl, rfl, rfl⟩) ⟨by rw [e1]; exact Int.le_refl _, fun z z0 z1 => by rw [ko 4 (by decide), ko 5 (by decide), ko 6 (by decide)]; exact ⟨rfl, rfl, rfl⟩⟩ (fun x => by unfold vC; rw [ko 4 (by decide), ko 5 (by decide), ko 6 (by decide)]) (by rw [e1])
  refine l_X o2 hd ?_
  rw [ko 23 (by decide)]
  have ha2 : 0 ≤ M 23 d ∧ M 23 d < M2 1 9 := by rw [e1]; exact ha
  have hb2 : 0 ≤ M 24 d ∧ M 24 d < M2 1 9 := by rw [e1]; exact hb
  refine h_part h370 ha2 (fun z => l_Y o2 hd ?_) (fun z => l_Y o2 hd ?_)
  · rw [ko 24 (by decide), ko 5 (by decide)]
    refine h_part h370 hb2 (fun _ => ?_) (fun w => absurd z w)
    rw [ko 5 (by decide)]
    rw [if_pos z, if_pos z] at fin
    exact fin
  · rw [ko 24 (by decide), ko 6 (by decide)]
    refine h_part h370 hb2 (fun w => absurd w z) (fun _ => ?_)
    rw [ko 6 (by decide)]
    rw [if_neg z, if_neg z] at fin
    exact fin
end H
