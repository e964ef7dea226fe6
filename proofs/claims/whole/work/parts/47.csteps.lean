/-! the class within a check: its steps -/
section H
variable {C M : Mem} {mm : Tr → Tr → Int} {u j c1 c2 : Int} {prog : Tr → Tr → Prop} {d a b v : Int} {Q : Int → Mem → Prop}
theorem l_has (h : M 3 6 = d + 1) (hd : 0 ≤ d ∧ d ≤ 163) (q : Q 1 M) : w_X0_hasLast M Q := ⟨fun z => by omega, fun _ => ⟨fun z => by omega, fun _ => q⟩⟩
theorem l_X (h : M 3 6 = d + 1) (hd : 0 ≤ d ∧ d ≤ 163) (q : Q (M 23 d) M) : w_X0_lastX M Q := by
  refine l_has h hd ⟨fun z => absurd z (by decide), fun _ => ⟨by unfold rg; omega, by omega, ?_⟩⟩
  rw [show M 3 6 - 1 = d by omega]
  exact q
theorem l_Y (h : M 3 6 = d + 1) (hd : 0 ≤ d ∧ d ≤ 163) (q : Q (M 24 d) M) : w_X0_lastY M Q := by
  refine l_has h hd ⟨fun z => absurd z (by decide), fun _ => ⟨by unfold rg; omega, by omega, ?_⟩⟩
  rw [show M 3 6 - 1 = d by omega]
  exact q
theorem l_W (h : M 3 6 = d + 1) (hd : 0 ≤ d ∧ d ≤ 163) (q : Q (M 25 d) M) : w_X0_lastWaitsFor M Q := by
  refine l_has h hd ⟨fun z => absurd z (by decide), fun _ => ⟨by unfold rg; omega, by omega, ?_⟩⟩
  rw [show M 3 6 - 1 = d by omega]
  exact q
theorem l_set {Q : Mem → Prop} (h : M 3 6 = d + 1) (hd : 0 ≤ d ∧ d ≤ 163) (q : Q (up M 25 d v)) : w_X0_setLastWaitsFor M v Q := by
  refine l_has h hd ⟨fun z => absurd z (by decide), fun _ => ⟨by unfold rg; omega, by omega, ?_⟩⟩
  rw [show M 3 6 - 1 = d by omega]
  exact q
/-- two held terms of one tree are one -/
theorem XC_inj (hI : InvC C) (h : XC C M) (ha : 0 ≤ a ∧ a < M 1 9) (hb : 0 ≤ b ∧ b < M 1 9) (e : vC M a = vC M b) : a = b := by
  have h12 : M 2 7 ≤ 12 := by rw [h.1 2 (by omega)]; exact hI.1.2.1
  exact vC_inj h.2.2.2.2.2.2 h12 ha.2 hb.2 (by omega) (by omega) e
theorem g_close (hI : InvC C) {prog' : Tr → Tr → Prop} (h : SC C mm u j c1 c2 prog' M) (ho : M 3 6 = d + 1) (hd : 0 ≤ d ∧ d ≤ 163) (ha : 0 ≤ M 23 d ∧ M 23 d < M 1 9) (hb : 0 ≤ M 24 d ∧ M 24 d < M 1 9) (h0 : mm (vC M (M 23 d)) (vC M (M 24 d)) = 0) (hv : v = 0 ∨ v = 1) (hp : ∀ p q, prog' p q → prog p q ∨ (p = vC M (M 23 d) ∧ q = vC M (M 24 d)))
    (q : ∀ M2, SC C (mst mm (vC M (M 23 d)) (vC M (M 24 d)) (v + 1)) u j c1 c2 prog M2 → M2 3 6 = d → fb d M M2 → ext M M2 → Q v M2) : w_X0_close M v Q := by
  obtain ⟨hX, g1, g2, g3, g4, g5, g6, L, l1, l2, l3⟩ := id h
  have h370 := hX.2.2.2.2.2.1
  refine l_X ho hd (l_Y ho hd (h_judge h370 ha hb hv (by rw [g4 _ _ ha.1 ha.2 hb.1 hb.2]; exact h0) (fun M' hc hj1 hj2 => ?_)))
  have e3 : M' 3 = M 3 := hc 3 (by decide)
  have e36 : M' 3 6 = d + 1 := by rw [e3]; exact ho
  rw [e36]
  refine ⟨by unfold rg; omega, ?_⟩
  have em : imax 0 (d + 1 - 1) = d := by
    unfold imax
    split <;> omega
  rw [em]
  generalize hM2 : up M' 3 6 d = M2
  have kc : ∀ c : Nat, c ≠ 3 → M2 c = M' c := fun c c3 => by rw [← hM2, up_off c3]
  have k3 : ∀ i, i ≠ 6 → M2 3 i = M 3 i := fun i hi => by rw [← hM2]; simp [up, hi, e3]
  have ko : ∀ c : Nat, c ≠ 3 → c ≠ 22 → M2 c = M c := fun c c3 c22 => (kc c c3).trans (hc c c22)
  have e1 : M2 1 = M 1 := ko 1 (by decide) (by decide)
  have ev : ∀ x, vC M2 x = vC M x := fun x => by
    unfold vC
    rw [ko 4 (by decide) (by decide), ko 5 (by decide) (by decide), ko 6 (by decide) (by decide)]
  have jm : ∀ p q, jv M2 p q = jv M' p q := fun p q => jv_cell (kc 22 (by decide)) p q
  have hX2 : XC C M2 := by
    obtain ⟨x1, x2, x3, x4, x5, x6, x7⟩ := hX
    refine ⟨fun c hcc => by rw [ko c (by omega) (by omega)]; exact x1 c hcc, by rw [e1]; exact x2, by rw [k3 12 (by decide)]; exact x3, ?_, by rw [e1]; exact x5, by rw [e1]; exact x6, ?_⟩
    · rw [ko 4 (by decide) (by decide), ko 5 (by decide) (by decide), ko 6 (by decide) (by decide)]
      exact x4
    · unfold TB tnode
      rw [e1, ko 2 (by decide) (by decide), ko 4 (by decide) (by decide), ko 5 (by decide) (by decide), ko 6 (by decide) (by decide), ko 12 (by decide) (by decide)]
      exact x7
  refine q M2 ⟨hX2, by rw [e1]; exact g1, g2, by rw [k3 7 (by decide), k3 8 (by decide), k3 9 (by decide), k3 10 (by decide)]; exact g3, fun p r p0 p1 r0 r1 => ?_, fun p r p0 p1 r0 r1 hn => ?_, fun p r hpr => ?_, L, l1, l2, fun n hn => ?_⟩ (by rw [← hM2]; simp [up]) (fun i i0 i1 => ?_) ⟨by rw [e1]; exact Int.le_refl _, fun i i0 i1 => ?_⟩
  · rw [e1] at p1 r1
    rw [jm, ev, ev]
    by_cases c : p = M 23 d ∧ r = M 24 d
    · rw [c.1, c.2, hj1, mst_at]
    · rw [hj2 p r p0 (by omega) r0 (by omega) c, g4 p r p0 p1 r0 r1, mst_off (fun z => c ⟨XC_inj hI hX ⟨p0, p1⟩ ha z.1, XC_inj hI hX ⟨r0, r1⟩ hb z.2⟩)]
  · rw [e1] at hn
    rw [jm, hj2 p r p0 p1 r0 r1 (fun z => hn (by omega))]
    exact g5 p r p0 p1 r0 r1 hn
  · rw [e1]
    by_cases c : p = vC M (M 23 d) ∧ r = vC M (M 24 d)
    · rw [c.1, c.2, mst_at]
      exact ⟨by omega, M 23 d, M 24 d, ha, hb, ev _, ev _⟩
    · rw [mst_off c] at hpr ⊢
      obtain ⟨w, x, y, hx, hy, ex, ey⟩ := g6 p r hpr
      exact ⟨w, x, y, hx, hy, by rw [ev]; exact ex, by rw [ev]; exact ey⟩
  · rw [e1]
    obtain ⟨x, y, hx, hy, e, o⟩ := l3 n hn
    refine ⟨x, y, hx, hy, e, ?_⟩
    rw [ev, ev]
    by_cases c : vC M x = vC M (M 23 d) ∧ vC M y = vC M (M 24 d)
    · rw [c.1, c.2, mst_at]
      exact Or.inl (by omega)
    · rw [mst_off c]
      rcases o with o | o
      · exact Or.inl o
      · rcases hp _ _ o with o | o
        · exact Or.inr o
        · exact absurd o c
  · rw [ko 23 (by decide) (by decide), ko 24 (by decide) (by decide), ko 25 (by decide) (by decide)]
    exact ⟨rfl, rfl, rfl⟩
  · rw [ko 4 (by decide) (by decide), ko 5 (by decide) (by decide), ko 6 (by decide) (by decide)]
    exact ⟨rfl, rfl, rfl⟩
/-- meet: the same term -/
theorem g_meetA (hI : InvC C) (h : SC C mm u j c1 c2 prog M) (ha : 0 ≤ a ∧ a < M 1 9) (hb : 0 ≤ b ∧ b < M 1 9) (e : vC M a = vC M b) (q : Q 1 M) : w_X0_meet M a b Q :=
  h_held1 ha ⟨fun e => absurd e (by decide), fun _ => h_held1 hb ⟨fun _ => ⟨fun z => absurd (XC_inj hI h.1 ha hb e) z, fun _ => q⟩, fun e => absurd e (by decide)⟩⟩
/-- meet: judged already -/
theorem g_meetB (h : SC C mm u j c1 c2 prog M) (ha : 0 ≤ a ∧ a < M 1 9) (hb : 0 ≤ b ∧ b < M 1 9) (e : vC M a ≠ vC M b) (hm : mm (vC M a) (vC M b) ≠ 0) (q : Q (mm (vC M a) (vC M b) - 1) M) : w_X0_meet M a b Q := by
  obtain ⟨hX, g1, g2, g3, g4, g5, g6, -⟩ := id h
  have ej := g4 a b ha.1 ha.2 hb.1 hb.2
  have hv := (g6 _ _ hm).1
  refine h_held1 ha ⟨fun e => absurd e (by decide), fun _ => h_held1 hb ⟨fun _ => ⟨fun _ => h_judgment hX.2.2.2.2.2.1 ha hb (fun z => absurd (ej.symm.trans z) hm) (fun _ => ?_), fun z => absurd (by rw [z]) e⟩, fun e => absurd e (by decide)⟩⟩
  rw [ej]
  exact ⟨fun z => by omega, fun _ => q⟩
/-- meet: the pair goes under way -/
theorem g_meetC (hI : InvC C) (h : SC C mm u j c1 c2 prog M) (ho : M 3 6 = d) (hd : 0 ≤ d ∧ d ≤ 163) (ha : 0 ≤ a ∧ a < M 1 9) (hb : 0 ≤ b ∧ b < M 1 9) (e : vC M a ≠ vC M b) (hm : mm (vC M a) (vC M b) = 0) (hnp : ¬ prog (vC M a) (vC M b))
    (q : ∀ M3, SC C mm u (j + 1) c1 c2 (fun p r => prog p r ∨ (p = vC M a ∧ r = vC M b)) M3 → M3 3 6 = d + 1 → M3 23 d = a → M3 24 d = b → fb d M M3 → ext M M3 → Q 2 M3) : w_X0_meet M a b Q := by
  have hj := SC_j h
  obtain ⟨hX, g1, g2, ⟨g3, g3', g3'', g3'''⟩, g4, g5, g6, L, l1, l2, l3⟩ := id h
  have h370 := hX.2.2.2.2.2.1
  have ej := g4 a b ha.1 ha.2 hb.1 hb.2
  refine h_held1 ha ⟨fun e => absurd e (by decide), fun _ => h_held1 hb ⟨fun _ => ⟨fun _ => h_judgment h370 ha hb (fun _ => ⟨fun _ => ⟨fun _ => ?_, fun z => by omega⟩, fun z => absurd rfl z⟩) (fun z => absurd (ej.trans hm) z), fun z => absurd (by rw [z]) e⟩, fun e => absurd e (by decide)⟩⟩
  rw [ho]
  have s1 : (up M 23 d a) 3 6 = d := by rw [up_off (by decide)]; exact ho
  rw [s1]
  have s2 : (up (up M 23 d a) 24 d b) 3 6 = d := by rw [up_off (by decide)]; exact s1
  rw [s2]
  have s3 : (up (up (up M 23 d a) 24 d b) 3 6 (d + 1)) 3 8 = j := by simp [up, g3']
  rw [s3]
  refine ⟨by omega, by omega, by unfold rg; omega, by unfold rg; omega, ?_⟩
  generalize hM3 : up (up (up (up M 23 d a) 24 d b) 3 6 (d + 1)) 3 8 (j + 1) = M3
  have ko : ∀ c : Nat, c ≠ 3 → c ≠ 23 → c ≠ 24 → M3 c = M c := fun c c3 c23 c24 => by rw [← hM3, up_off c3, up_off c3, up_off c24, up_off c23]
  have k3 : ∀ i, i ≠ 6 → i ≠ 8 → M3 3 i = M 3 i := fun i h6 h8 => by rw [← hM3]; simp [up, h6, h8]
  have k36 : M3 3 6 = d + 1 := by rw [← hM3]; simp [up]
  have k38 : M3 3 8 = j + 1 := by rw [← hM3]; simp [up]
  have k23 : ∀ i, M3 23 i = if i = d then a else M 23 i := fun i => by rw [← hM3]; simp [up]
  have k24 : ∀ i, M3 24 i = if i = d then b else M 24 i := fun i => by rw [← hM3]; simp [up]
  have e1 : M3 1 = M 1 := ko 1 (by decide) (by decide) (by decide)
  have e22 : M3 22 = M 22 := ko 22 (by decide) (by decide) (by decide)
  have ev : ∀ x, vC M3 x = vC M x := fun x => by
    unfold vC
    rw [ko 4 (by decide) (by decide) (by decide), ko 5 (by decide) (by decide) (by decide), ko 6 (by decide) (by decide) (by decide)]
  have hX3 : XC C M3 := by
    obtain ⟨x1, x2, x3, x4, x5, x6, x7⟩ := hX
    refine ⟨fun c hcc => by rw [ko c (by omega) (by omega) (by omega)]; exact x1 c hcc, by rw [e1]; exact x2, by rw [k3 12 (by decide) (by decide)]; exact x3, ?_, by rw [e1]; exact x5, by rw [e1]; exact x6, ?_⟩
    · rw [ko 4 (by decide) (by decide) (by decide), ko 5 (by decide) (by decide) (by decide), ko 6 (by decide) (by decide) (by decide)]
      exact x4
    · unfold TB tnode
      rw [e1, ko 2 (by decide) (by decide) (by decide), ko 4 (by decide) (by decide) (by decide), ko 5 (by decide) (by decide) (by decide), ko 6 (by decide) (by decide) (by decide), ko 12 (by decide) (by decide) (by decide)]
      exact x7
  refine q M3 ⟨hX3, by rw [e1]; exact g1, g2, ⟨by rw [k3 7 (by decide) (by decide)]; exact g3, k38, by rw [k3 9 (by decide) (by decide)]; exact g3'', by rw [k3 10 (by decide) (by decide)]; exact g3'''⟩, fun p r => ?_, fun p r => ?_, fun p r hpr => ?_, (a * 370 + b).toNat :: L, ?_, ?_, ?_⟩ k36 (by rw [k23, if_pos rfl]) (by rw [k24, if_pos rfl]) (fun i i0 i1 => ?_) ⟨by rw [e1]; exact Int.le_refl _, fun i i0 i1 => ?_⟩
  · rw [e1, jv_cell e22, ev, ev]
    exact g4 p r
  · rw [e1, jv_cell e22]
    exact g5 p r
  · rw [e1]
    obtain ⟨w, x, y, hx, hy, ex, ey⟩ := g6 p r hpr
    exact ⟨w, x, y, hx, hy, by rw [ev]; exact ex, by rw [ev]; exact ey⟩
  · refine List.nodup_cons.mpr ⟨fun hmem => ?_, l1⟩
    obtain ⟨x, y, hx, hy, ee, o⟩ := l3 _ hmem
    have q1 : x = a ∧ y = b := by omega
    rw [q1.1, q1.2] at o
    rcases o with o | o
    · exact o hm
    · exact hnp o
  · simp only [List.length_cons]
    omega
  · intro n hn
    rw [e1]
    rcases List.mem_cons.mp hn with e9 | e9
    · refine ⟨a, b, ha, hb, by omega, Or.inr (Or.inr ⟨ev _, ev _⟩)⟩
    · obtain ⟨x, y, hx, hy, ee, o⟩ := l3 n e9
      refine ⟨x, y, hx, hy, ee, ?_⟩
      rw [ev, ev]
      rcases o with o | o
      · exact Or.inl o
      · exact Or.inr (Or.inl o)
  · rw [k23, k24, if_neg (by omega), if_neg (by omega), ko 25 (by decide) (by decide) (by decide)]
    exact ⟨rfl, rfl, rfl⟩
  · rw [ko 4 (by decide) (by decide) (by decide), ko 5 (by decide) (by decide) (by decide), ko 6 (by decide) (by decide) (by decide)]
    exact ⟨rfl, rfl, rfl⟩
end H
