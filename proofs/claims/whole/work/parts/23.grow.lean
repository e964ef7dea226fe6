/-! the class: the table grows by a term, and all holds on -/
def vnode (C : Mem) (f a b : Int) : Prop :=
  ((f = 100 ∨ f = 101) ∧ a = -9 ∧ b = -9) ∨
  ((0 ≤ f ∧ f < C 2 7) ∧ (C 12 f < 1 → a = -9) ∧ (1 ≤ C 12 f → 0 ≤ a ∧ a < C 1 8) ∧ (C 12 f < 2 → b = -9) ∧ (2 ≤ C 12 f → 0 ≤ b ∧ b < C 1 8))
def grown (C C' : Mem) (f a b : Int) : Prop :=
  (C' 1 8 = C 1 8 + 1 ∧ C' 1 9 = C 1 8 + 1) ∧ (C' 4 (C 1 8) = f ∧ C' 5 (C 1 8) = a ∧ C' 6 (C 1 8) = b) ∧
  (∀ x, x ≠ C 1 8 → C' 4 x = C 4 x ∧ C' 5 x = C 5 x ∧ C' 6 x = C 6 x ∧ C' 7 x = C 7 x ∧ C' 8 x = C 8 x ∧ C' 9 x = C 9 x ∧ C' 10 x = C 10 x ∧ C' 11 x = C 11 x) ∧
  (∀ c, c = 2 ∨ c = 3 ∨ 12 ≤ c → C' c = C c) ∧
  (C' 7 (C 1 8) = 1 + imax (dC C a) (dC C b) ∧ C' 8 (C 1 8) = (1 + sC C a) + sC C b ∧ C' 9 (C 1 8) = bor (bor (nC C a) (nC C b)) (if 100 ≤ f then 0 else bshl 1 f) ∧ C' 10 (C 1 8) = (pC C a + pC C b) + (if f = 100 then 1 else 0) ∧ C' 11 (C 1 8) = (rC C a + rC C b) + (if f ≤ 100 then 0 else 1))
theorem vnode.parts {C : Mem} {f a b : Int} (h : vnode C f a b) (hN : NB C) : (a = -9 ∨ (0 ≤ a ∧ a < C 1 8)) ∧ (b = -9 ∨ (0 ≤ b ∧ b < C 1 8)) ∧ (0 ≤ f ∧ (f < 12 ∨ f = 100 ∨ f = 101)) := by
  rcases h with ⟨h1, h2, h3⟩ | ⟨h1, h2, h3, h4, h5⟩
  · omega
  · have := hN.2.1
    refine ⟨?_, ?_, by omega⟩
    · by_cases q : C 12 f < 1
      · exact Or.inl (h2 q)
      · exact Or.inr (h3 (by omega))
    · by_cases q : C 12 f < 2
      · exact Or.inl (h4 q)
      · exact Or.inr (h5 (by omega))
theorem tc_of {C : Mem} {n : Int} (h : TC C n) (hn : n = C 1 8) {a : Int} (ha : a = -9 ∨ (0 ≤ a ∧ a < C 1 8)) : dC C a = dep (vC C a) ∧ sC C a = siz (vC C a) ∧ nC C a = msk (vC C a) ∧ pC C a = occ 100 (vC C a) ∧ rC C a = occ 101 (vC C a) := by
  subst hn
  unfold dC sC nC pC rC
  rcases ha with ha | ha
  · have hn : ¬ (0 ≤ a ∧ a < C 1 8) := by omega
    rw [vC_neg (by omega : a < 0)]
    simp only [if_neg hn]
    exact ⟨rfl, rfl, rfl, rfl, rfl⟩
  · obtain ⟨h1, h2, h3, h4, h5, h6⟩ := h a ha.1 ha.2
    simp only [if_pos ha]
    exact ⟨h1, h3, h4, h5, h6⟩
theorem tc_rng {C : Mem} (h : TC C (C 1 8)) (a : Int) : (0 ≤ dC C a ∧ dC C a ≤ 4) ∧ (0 ≤ sC C a ∧ sC C a ≤ 15) ∧ (0 ≤ pC C a ∧ pC C a ≤ 15) ∧ (0 ≤ rC C a ∧ rC C a ≤ 15) := by
  unfold dC sC pC rC
  by_cases ha : 0 ≤ a ∧ a < C 1 8
  · have := tc_range (h a ha.1 ha.2)
    simp only [if_pos ha]
    exact this
  · simp only [if_neg ha]
    decide
theorem inv_grown {C C' : Mem} {f a b : Int} (hI : InvC C) (hv : vnode C f a b) (hd : 1 + imax (dC C a) (dC C b) ≤ 4) (hl : C 1 8 < 90) (hm : ∀ x, 0 ≤ x → x < C 1 8 → ¬ (C 4 x = f ∧ C 5 x = a ∧ C 6 x = b)) (hg : grown C C' f a b) : InvC C' := by
  obtain ⟨hNB, ⟨hn0, hn9, hheld⟩, hTB, hTC, hNC, hbb⟩ := hI
  obtain ⟨pa, pb, pf⟩ := hv.parts hNB
  obtain ⟨⟨g1, g1'⟩, ⟨g2, g3, g4⟩, g5, g6, g7, g8, g9, g10, g11⟩ := hg
  have e2 : C' 2 = C 2 := g6 2 (by omega)
  have e3 : C' 3 = C 3 := g6 3 (by omega)
  have e12 : C' 12 = C 12 := g6 12 (by omega)
  have e13 : C' 13 = C 13 := g6 13 (by omega)
  have e14 : C' 14 = C 14 := g6 14 (by omega)
  have e15 : C' 15 = C 15 := g6 15 (by omega)
  have e16 : C' 16 = C 16 := g6 16 (by omega)
  have ec : (fun i => C' (18 + i)) = (fun i => C (18 + i)) := funext fun i => g6 (18 + i) (by omega)
  have hext : ∀ x, x < C 1 8 → vC C' x = vC C x := fun x hx => vC_ext hTB (fun y h0 h1 => ⟨(g5 y (by omega)).1, (g5 y (by omega)).2.1, (g5 y (by omega)).2.2.1⟩) hx
  have htb : TB C' (C 1 8 + 1) := by
    refine ⟨fun x h0 h1 => ?_, fun x y hx0 hx1 hy0 hy1 q1 q2 q3 => ?_⟩
    · by_cases e : x = C 1 8
      · unfold tnode
        rw [e, g2, g3, g4, e2, e12]
        exact hv
      · unfold tnode
        obtain ⟨z4, z5, z6, -⟩ := g5 x e
        rw [z4, z5, z6, e2, e12]
        exact hTB.1 x h0 (by omega)
    · by_cases ex : x = C 1 8
      · by_cases ey : y = C 1 8
        · omega
        · obtain ⟨z4, z5, z6, -⟩ := g5 y ey
          rw [ex, g2, z4] at q1
          rw [ex, g3, z5] at q2
          rw [ex, g4, z6] at q3
          exact absurd ⟨q1.symm, q2.symm, q3.symm⟩ (hm y hy0 (by omega))
      · obtain ⟨w4, w5, w6, -⟩ := g5 x ex
        by_cases ey : y = C 1 8
        · rw [ey, g2, w4] at q1
          rw [ey, g3, w5] at q2
          rw [ey, g4, w6] at q3
          exact absurd ⟨q1, q2, q3⟩ (hm x hx0 (by omega))
        · obtain ⟨z4, z5, z6, -⟩ := g5 y ey
          exact hTB.2 x y hx0 (by omega) hy0 (by omega) (by rw [← w4, ← z4]; exact q1) (by rw [← w5, ← z5]; exact q2) (by rw [← w6, ← z6]; exact q3)
  obtain ⟨a1, a2, a3, a4, a5⟩ := tc_of hTC rfl pa
  obtain ⟨b1, b2, b3, b4, b5⟩ := tc_of hTC rfl pb
  have hvn : vC C' (C 1 8) = nd f.toNat (vC C a) (vC C b) := by
    rw [vC_eq htb hn0 (by omega), g2, g3, g4, hext a (by omega), hext b (by omega)]
  refine ⟨⟨by rw [e2]; exact hNB.1, by rw [e2]; exact hNB.2.1, fun n h0 h1 => ?_⟩, ⟨by omega, by omega, by omega⟩, by rw [g1]; exact htb, fun x h0 h1 => ?_, fun n h0 h1 => ?_, by rw [e3]; exact hbb⟩
  · rw [e2] at h1
    obtain ⟨q1, q2, q3⟩ := hNB.2.2 n h0 h1
    rw [e12, e13, e14]
    refine ⟨q1, q2, ?_⟩
    rcases q3 with q3 | ⟨q3, q4, q5⟩
    · exact Or.inl q3
    · exact Or.inr ⟨q3, by omega, by rw [hext _ q4]; exact q5⟩
  · by_cases e : x = C 1 8
    · unfold tcache
      rw [e, hvn, g7, g8, g9, g10, g11, dep_nd, siz_nd, msk_nd, occ_nd, occ_nd, a1, a2, a3, a4, a5, b1, b2, b3, b4, b5]
      rw [a1, b1] at hd
      refine ⟨rfl, hd, rfl, ?_, ?_, ?_⟩
      · by_cases q : 100 ≤ f
        · rw [if_pos q, if_pos (by omega)]
        · rw [if_neg q, if_neg (by omega), Int.toNat_of_nonneg pf.1]
      · by_cases q : f = 100
        · rw [if_pos q, if_pos (by omega)]
        · rw [if_neg q, if_neg (by omega)]
      · by_cases q : f ≤ 100
        · rw [if_pos q, if_neg (by omega)]
        · rw [if_neg q, if_pos (by omega)]
    · unfold tcache
      obtain ⟨z4, z5, z6, z7, z8, z9, z10, z11⟩ := g5 x e
      rw [z7, z8, z9, z10, z11, hext x (by omega)]
      exact hTC x h0 (by omega)
  · rw [e2] at h1
    obtain ⟨⟨q1, q2⟩, q3⟩ := hNC n h0 h1
    have hdf := (hNB.2.2 n h0 h1).2.2
    refine ⟨⟨?_, ?_⟩, ?_⟩
    · unfold fold
      rw [e12, e13, e14, e15, e16, g6 18 (by omega), g6 19 (by omega), g6 20 (by omega), g6 21 (by omega)]
      exact q1
    · unfold fold
      rw [e13, e14, e15, e16, ec, g6 18 (by omega), g6 19 (by omega), g6 20 (by omega), g6 21 (by omega)]
      intro hf
      rcases hdf with hdf | ⟨hdf, hdf2, -⟩
      · exact absurd hdf hf.1
      · rw [hext _ hdf2]
        exact q2 hf
    · unfold nrange
      rw [e12, e15, e16, g6 18 (by omega), g6 19 (by omega), g6 20 (by omega), g6 21 (by omega)]
      exact q3
theorem h_num {C : Mem} {Q : Int → Mem → Prop} {f a b : Int} (hI : InvC C) (hv : vnode C f a b) (hd : 1 + imax (dC C a) (dC C b) ≤ 4)
    (q1 : ∀ x, 0 ≤ x → x < C 1 8 → C 4 x = f → C 5 x = a → C 6 x = b → Q x C)
    (q2 : (∀ x, 0 ≤ x → x < C 1 8 → ¬ (C 4 x = f ∧ C 5 x = a ∧ C 6 x = b)) → C 1 8 = 90 → Q (-4) C)
    (q3 : (∀ x, 0 ≤ x → x < C 1 8 → ¬ (C 4 x = f ∧ C 5 x = a ∧ C 6 x = b)) → C 1 8 < 90 → ∀ C', InvC C' → grown C C' f a b → Q (C 1 8) C') : w_X2_numberOf C f a b Q := by
  obtain ⟨hNB, ⟨hn0, hn9, hheld⟩, hTB, hTC, hNC, hbb⟩ := id hI
  obtain ⟨pa, pb, pf⟩ := hv.parts hNB
  refine h_find (by omega) (by omega) (fun x h0 h1 e1 e2 e3 => ?_) (fun hm => ?_)
  · exact ⟨fun z => by omega, fun _ => q1 x h0 (by omega) e1 e2 e3⟩
  · rw [hheld] at hm
    refine ⟨fun _ => ⟨fun hl => ⟨fun _ => ?_, fun z => by omega⟩, fun hl => q2 hm (by omega)⟩, fun z => absurd rfl z⟩
    rw [hheld]
    refine ⟨by omega, by omega, by omega, ?_, ?_⟩
    · show rg (C 1 9 + 1)
      unfold rg
      omega
    · show w_X2_measure (up (up (up (up (up C 4 (C 1 8) f) 5 (C 1 8) a) 6 (C 1 8) b) 1 9 (C 1 9 + 1)) 1 8 (C 1 9 + 1)) (C 1 8) (fun M11 => Q (C 1 8) M11)
      rw [hheld]
      generalize hn : C 1 8 = n at *
      generalize hC2 : (up (up (up (up (up C 4 n f) 5 n a) 6 n b) 1 9 (n + 1)) 1 8 (n + 1)) = C2
      have k18 : C2 1 8 = n + 1 := by rw [← hC2]; simp [up]
      have k19 : C2 1 9 = n + 1 := by rw [← hC2]; simp [up]
      have k4 : ∀ x, C2 4 x = if x = n then f else C 4 x := fun x => by rw [← hC2]; simp [up]
      have k5 : ∀ x, C2 5 x = if x = n then a else C 5 x := fun x => by rw [← hC2]; simp [up]
      have k6 : ∀ x, C2 6 x = if x = n then b else C 6 x := fun x => by rw [← hC2]; simp [up]
      have ko : ∀ c, c = 2 ∨ c = 3 ∨ 7 ≤ c → C2 c = C c := fun c hc => by
        rw [← hC2]
        rw [up_off (by omega), up_off (by omega), up_off (by omega), up_off (by omega), up_off (by omega)]
      have f4 : C2 4 n = f := by rw [k4, if_pos rfl]
      have f5 : C2 5 n = a := by rw [k5, if_pos rfl]
      have f6 : C2 6 n = b := by rw [k6, if_pos rfl]
      have rd : ∀ z, z = -9 ∨ (0 ≤ z ∧ z < n) → dC C2 z = dC C z ∧ sC C2 z = sC C z ∧ nC C2 z = nC C z ∧ pC C2 z = pC C z ∧ rC C2 z = rC C z := fun z hz => by
        unfold dC sC nC pC rC
        rw [k18, hn, ko 7 (by omega), ko 8 (by omega), ko 9 (by omega), ko 10 (by omega), ko 11 (by omega)]
        rcases hz with hz | hz
        · have z1 : ¬ (0 ≤ z ∧ z < n + 1) := by omega
          have z2 : ¬ (0 ≤ z ∧ z < n) := by omega
          refine ⟨?_, ?_, ?_, ?_, ?_⟩ <;> rw [if_neg z1, if_neg z2]
        · have z1 : 0 ≤ z ∧ z < n + 1 := by omega
          refine ⟨?_, ?_, ?_, ?_, ?_⟩ <;> rw [if_pos z1, if_pos hz]
      have ra := rd a pa
      have rb := rd b pb
      have ta := tc_rng (C := C) (by rw [hn]; exact hTC) a
      have tb := tc_rng (C := C) (by rw [hn]; exact hTC) b
      refine h_meas (by omega) (by omega) ?_ ?_ ?_ ?_ ?_
      · rw [f5, f6, ra.1, rb.1]
        exact ⟨ta.1, tb.1⟩
      · rw [f5, f6, ra.2.1, rb.2.1]
        exact ⟨ta.2.1, tb.2.1⟩
      · rw [f5, f6, ra.2.2.2.1, rb.2.2.2.1]
        exact ⟨ta.2.2.1, tb.2.2.1⟩
      · rw [f5, f6, ra.2.2.2.2, rb.2.2.2.2]
        exact ⟨ta.2.2.2, tb.2.2.2⟩
      · rw [f4, f5, f6, ra.1, rb.1, ra.2.1, rb.2.1, ra.2.2.1, rb.2.2.1, ra.2.2.2.1, rb.2.2.2.1, ra.2.2.2.2, rb.2.2.2.2]
        generalize hC3 : up (up (up (up (up C2 7 n _) 8 n _) 9 n _) 10 n _) 11 n _ = C3
        have hg : grown C C3 f a b := by
          refine ⟨?_, ?_, ?_, ?_, ?_⟩
          · rw [hn, ← hC3]
            exact ⟨k18, k19⟩
          · rw [hn, ← hC3]
            exact ⟨f4, f5, f6⟩
          · intro x hx
            rw [hn] at hx
            rw [← hC3]
            have q4 : C2 4 x = C 4 x := by rw [k4, if_neg hx]
            have q5 : C2 5 x = C 5 x := by rw [k5, if_neg hx]
            have q6 : C2 6 x = C 6 x := by rw [k6, if_neg hx]
            refine ⟨q4, q5, q6, ?_, ?_, ?_, ?_, ?_⟩ <;> simp [up, hx, ko]
          · intro c hc
            rw [← hC3, up_off (by omega), up_off (by omega), up_off (by omega), up_off (by omega), up_off (by omega)]
            exact ko c (by omega)
          · rw [hn, ← hC3]
            refine ⟨?_, ?_, ?_, ?_, ?_⟩ <;> simp [up]
        exact q3 (by intro x h0 h1; exact hm x h0 (by omega)) hl C3 (inv_grown hI hv hd (by omega) (by rw [hn]; exact hm) hg) hg
