/-! the reference: a term is weighed -/
def WT (C M : Mem) (y : Int) : Prop := M 14 (2 * y) = cnw (cM C) 0 (vC C y) ∧ M 14 (2 * y + 1) = cnw (cM C) 1 (vC C y) ∧ M 13 y = cnw (cM C) 2 (vC C y) ∧ M 15 y = cnw (cM C) 3 (vC C y)
/-- what the reference finds of name f is what the class holds -/
def AGf (C M : Mem) (f : Int) : Prop := M 8 f = C 15 f ∧ M 12 f = C 16 f ∧ M 9 f = C 20 f ∧ M 11 f = C 21 f ∧ (0 < C 12 f → M 10 (2 * f) = C 18 f) ∧ (1 < C 12 f → M 10 (2 * f + 1) = C 19 f)
/-- only the weights of y change -/
def wsame (M M' : Mem) (y : Int) : Prop := (∀ c : Nat, c ≠ 13 → c ≠ 14 → c ≠ 15 → M' c = M c) ∧ (∀ i, i ≠ y → M' 13 i = M 13 i ∧ M' 15 i = M 15 i) ∧ ∀ i, i ≠ 2 * y → i ≠ 2 * y + 1 → M' 14 i = M 14 i
section H
variable {k : Int} {C M : Mem} {n x y a b : Int} {Q : Int → Mem → Prop}
theorem lcm_ge (a b : Int) : 0 ≤ lcm a b ↔ b ≤ a := by
  unfold lcm
  split
  · omega
  · split <;> omega
theorem m_atMost (q : Q (imin 1000000000000000 a) M) : w_X4_atMost M a Q := by
  unfold imin at q
  refine ⟨fun z => ?_, fun z => ?_⟩
  · rw [lcm_ge] at z
    by_cases c : a < 1000000000000000
    · omega
    · rw [if_neg c] at q
      exact q
  · rw [lcm_ge] at z
    rw [if_pos (by omega)] at q
    exact q
theorem m_sum (ha : sat a) (hb : sat b) (q : Q (sadd a b) M) : rl (a + b) ∧ w_X4_atMost M (a + b) Q := by
  unfold sat at ha hb
  exact ⟨by unfold rl; omega, m_atMost q⟩
theorem smul_min (ha : sat a) (hb : sat b) : smul a b = imin 1000000000000000 (a * b) := by
  unfold smul imin MOST
  by_cases c : a * b ≤ 1000000000000000
  · rw [if_pos c]
    split <;> omega
  · rw [if_neg c, if_neg (by omega)]
theorem m_times (ha : sat a) (hb : sat b) (q : Q (smul a b) M) : w_X4_times M a b Q := by
  have hmin := smul_min ha hb
  have ha' := ha
  have hb' := hb
  unfold sat at ha hb
  have j22 : rl (a * b) → w_X4_times_J22 Q M a b := fun hr => ⟨hr, m_atMost (by rw [← hmin]; exact q)⟩
  refine ⟨fun z => ?_, fun z => ?_⟩
  · rw [lcm_le] at z
    have e : a = 0 := by omega
    refine j22 ?_
    rw [e, Int.zero_mul]
    exact rl_0
  · rw [lcm_le] at z
    have hpos : 0 < a := by omega
    have e : Int.tdiv 1000000000000000 a = 1000000000000000 / a := Int.tdiv_eq_ediv_of_nonneg (by decide)
    rw [e]
    have hdiv : 1000000000000000 / a ≤ 1000000000000000 := Int.ediv_le_self _ (by decide)
    have hdiv0 : 0 ≤ 1000000000000000 / a := Int.ediv_nonneg (by decide) (by omega)
    refine ⟨by omega, by unfold rl; omega, fun h3 => ?_, fun h3 => ?_⟩
    · rw [lcm_le] at h3
      have h4 : b * a ≤ 1000000000000000 := (Int.le_ediv_iff_mul_le hpos).mp h3
      have h5 : 0 ≤ a * b := Int.mul_nonneg ha.1 hb.1
      rw [Int.mul_comm] at h4
      exact j22 (by unfold rl; omega)
    · rw [lcm_le] at h3
      have h4 : ¬ b * a ≤ 1000000000000000 := fun z => h3 ((Int.le_ediv_iff_mul_le hpos).mpr z)
      rw [Int.mul_comm] at h4
      unfold smul MOST at q
      rw [if_neg h4] at q
      exact q
theorem inv_sat (hI : InvC C) (hx : x < C 1 8) (j : Nat) (hj : j < 4) : sat (cnw (cM C) j (vC C x)) := by
  by_cases h0 : x < 0
  · rw [vC_neg h0, cnw_nl]
    exact ⟨Int.le_refl 0, by decide⟩
  · exact sat_cnw _ (allF_mono (fun f hf h1 => ⟨(hf h1).at 0 (by decide), (hf h1).at 1 (by decide), (hf h1).at j hj⟩) _ (inv_ok hI ⟨by omega, hx⟩).2.2)
theorem m_weighs {Q : Mem → Prop} (h : Rel k C M) (hy : 0 ≤ y ∧ y < C 1 8) (hag : C 4 y < 100 → AGf C M (C 4 y)) (hp0 : 0 ≤ C 5 y → WT C M (C 5 y)) (hp1 : 0 ≤ C 6 y → WT C M (C 6 y)) (q : ∀ M', wsame M M' y → WT C M' y → Q M') : w_X4_weighs M y Q := by
  obtain ⟨⟨r0, r1, r2⟩, hn, hn2, hx, ht, hc⟩ := h.2
  obtain ⟨t0, t9, th⟩ := h.1.2.1
  obtain ⟨hB, -, hT, -, hNC, -⟩ := id h.1
  have h12 := hB.2.1
  obtain ⟨a1, a2, a3, a4⟩ := hx y hy.1 hy.2
  have hf := hT.fr hy.1 hy.2 h12
  have ev := vC_eq hT hy.1 hy.2
  have e4 : (((C 4 y).toNat : Nat) : Int) = C 4 y := Int.toNat_of_nonneg hf.1
  have s0 : sat 0 := ⟨Int.le_refl 0, by decide⟩
  have fin : ∀ s c o t : Int, s = cnw (cM C) 2 (vC C y) → c = cnw (cM C) 3 (vC C y) → o = cnw (cM C) 0 (vC C y) → t = cnw (cM C) 1 (vC C y) → Q (up (up (up (up M 13 y s) 15 y c) 14 (2 * y) o) 14 (2 * y + 1) t) := fun s c o t es ec eo et => by
    apply q
    · refine ⟨fun d d1 d2 d3 => ?_, fun i hi => ⟨?_, ?_⟩, fun i i1 i2 => ?_⟩
      · rw [up_off d2, up_off d2, up_off d3, up_off d1]
      · simp [up, hi]
      · simp [up, hi]
      · simp [up, i1, i2]
    · unfold WT
      rw [← es, ← ec, ← eo, ← et]
      refine ⟨?_, ?_, ?_, ?_⟩
      · simp [up]
        intro z
        omega
      · simp [up]
      · simp [up]
      · simp [up]
  unfold w_X4_weighs
  rw [a1]
  refine ⟨by omega, fun z => ⟨by omega, by omega, 3, ?_⟩, fun z => ⟨by omega, by omega, by unfold rg; omega, fun c => ?_, fun c => ?_⟩⟩
  · -- a name in front
    have hnm : 0 ≤ C 4 y ∧ C 4 y < C 2 7 := by omega
    obtain ⟨g8, g12, g9, g11, g0, g1⟩ := hag z
    have har := (hB.2.2 _ hnm.1 hnm.2).1
    have eA : M 1 (C 4 y) = C 12 (C 4 y) := (hn _ hnm.1 hnm.2).1
    have hck : cok C (C 4 y) := (hNC _ hnm.1 hnm.2).2.2.2
    have tn : (C 12 (C 4 y) < 1 → C 5 y = -9) ∧ (1 ≤ C 12 (C 4 y) → 0 ≤ C 5 y ∧ C 5 y < y) ∧ (C 12 (C 4 y) < 2 → C 6 y = -9) ∧ (2 ≤ C 12 (C 4 y) → 0 ≤ C 6 y ∧ C 6 y < y) := by
      rcases hT.1 y hy.1 hy.2 with p | p
      · omega
      · exact p.2
    have cv : ∀ j : Nat, cnw (cM C) j (vC C y) = sadd (sadd (if j < 2 then 0 else cM C j (C 4 y)) (smul (C 18 (C 4 y)) (cnw (cM C) j (vC C (C 5 y))))) (smul (C 19 (C 4 y)) (cnw (cM C) j (vC C (C 6 y)))) := fun j => by
      rw [ev, cnw_nd, if_neg (by omega), e4]
      rfl
    have w5 : C 5 y < C 1 8 := by
      by_cases d : C 12 (C 4 y) < 1
      · have := tn.1 d; omega
      · have := tn.2.1 (by omega); omega
    have w6 : C 6 y < C 1 8 := by
      by_cases d : C 12 (C 4 y) < 2
      · have := tn.2.2.1 d; omega
      · have := tn.2.2.2 (by omega); omega
    have sA : ∀ j : Nat, j < 4 → sat (cnw (cM C) j (vC C (C 5 y))) := fun j hj => inv_sat h.1 w5 j hj
    have sB : ∀ j : Nat, j < 4 → sat (cnw (cM C) j (vC C (C 6 y))) := fun j hj => inv_sat h.1 w6 j hj
    have h18 : sat (C 18 (C 4 y)) := hck.1
    have h19 : sat (C 19 (C 4 y)) := hck.2.1
    have h20 : sat (C 20 (C 4 y)) := hck.2.2.1
    have h21 : sat (C 21 (C 4 y)) := hck.2.2.2
    have m0 : ∀ j : Nat, j < 4 → sat (smul (C 18 (C 4 y)) (cnw (cM C) j (vC C (C 5 y)))) := fun j hj => sat_smul h18 (sA j hj)
    have m1 : ∀ j : Nat, j < 4 → sat (smul (C 19 (C 4 y)) (cnw (cM C) j (vC C (C 6 y)))) := fun j hj => sat_smul h19 (sB j hj)
    have c2 := cv 2
    have c3 := cv 3
    have c0 := cv 0
    have c1 := cv 1
    rw [if_neg (by decide), show cM C 2 (C 4 y) = C 20 (C 4 y) from rfl] at c2
    rw [if_neg (by decide), show cM C 3 (C 4 y) = C 21 (C 4 y) from rfl] at c3
    rw [if_pos (by decide)] at c0 c1
    rw [w_X4_weighs_L92, g9, g11, eA]
    refine ⟨by omega, fun d => ⟨by omega, by omega, by unfold rg; omega, by omega, by unfold rg; omega, by unfold rg; omega, by omega, ?_⟩, fun d => ⟨by unfold rg; omega, by unfold rg; omega, by omega, m_part (by omega) (Or.inl rfl) ?_⟩⟩
    · rw [tn.1 (by omega), tn.2.2.1 (by omega), vC_neg (by decide : (-9 : Int) < 0), cnw_nl] at c0 c1 c2 c3
      rw [sadd_z s0, sadd_z s0] at c0 c1
      rw [sadd_z h20, sadd_z h20] at c2
      rw [sadd_z h21, sadd_z h21] at c3
      exact fin _ _ _ _ c2.symm c3.symm c0.symm c1.symm
    · have hq := tn.2.1 (by omega)
      obtain ⟨p0, p1, p2, p3⟩ := hp0 hq.1
      rw [Int.add_zero, Int.add_zero, a2, g0 (by omega), p2]
      refine ⟨by omega, m_times h18 (sA 2 (by decide)) (m_sum h20 (m0 2 (by decide)) ⟨by omega, ?_⟩)⟩
      rw [p3]
      refine m_times h18 (sA 3 (by decide)) (m_sum h21 (m0 3 (by decide)) ⟨by unfold rg; omega, by omega, ?_⟩)
      rw [p0]
      refine m_times h18 (sA 0 (by decide)) (m_sum s0 (m0 0 (by decide)) ⟨by unfold rg; omega, by unfold rg; omega, by omega, ?_⟩)
      rw [p1]
      refine m_times h18 (sA 1 (by decide)) (m_sum s0 (m0 1 (by decide)) ⟨rgk _ (by decide), ?_⟩)
      have b2 := sat_sadd h20 (m0 2 (by decide))
      have b3 := sat_sadd h21 (m0 3 (by decide))
      have b0 := sat_sadd s0 (m0 0 (by decide))
      have b1 := sat_sadd s0 (m0 1 (by decide))
      rw [w_X4_weighs_L92, eA]
      refine ⟨by omega, fun d => ⟨by omega, by omega, by unfold rg; omega, by omega, by unfold rg; omega, by unfold rg; omega, by omega, ?_⟩, fun d => ⟨by unfold rg; omega, by unfold rg; omega, by omega, m_part (by omega) (Or.inr (by decide)) ?_⟩⟩
      · rw [tn.2.2.1 (by omega), vC_neg (by decide : (-9 : Int) < 0), cnw_nl] at c0 c1 c2 c3
        rw [sadd_z b0] at c0
        rw [sadd_z b1] at c1
        rw [sadd_z b2] at c2
        rw [sadd_z b3] at c3
        exact fin _ _ _ _ c2.symm c3.symm c0.symm c1.symm
      · have hq := tn.2.2.2 (by omega)
        obtain ⟨p0, p1, p2, p3⟩ := hp1 hq.1
        rw [show 2 * y + (0 + 1) = 2 * y + 1 by omega, show 2 * C 4 y + (0 + 1) = 2 * C 4 y + 1 by omega, a3, g1 (by omega), p2]
        refine ⟨by omega, m_times h19 (sB 2 (by decide)) (m_sum b2 (m1 2 (by decide)) ⟨by omega, ?_⟩)⟩
        rw [p3]
        refine m_times h19 (sB 3 (by decide)) (m_sum b3 (m1 3 (by decide)) ⟨by unfold rg; omega, by omega, ?_⟩)
        rw [p0]
        refine m_times h19 (sB 0 (by decide)) (m_sum b0 (m1 0 (by decide)) ⟨by unfold rg; omega, by unfold rg; omega, by omega, ?_⟩)
        rw [p1]
        refine m_times h19 (sB 1 (by decide)) (m_sum b1 (m1 1 (by decide)) ⟨rgk _ (by decide), ?_⟩)
        rw [w_X4_weighs_L92, eA]
        refine ⟨by omega, fun d => ⟨by omega, by omega, by unfold rg; omega, by omega, by unfold rg; omega, by unfold rg; omega, by omega, ?_⟩, fun d => by omega⟩
        exact fin _ _ _ _ c2.symm c3.symm c0.symm c1.symm
  · have e : C 4 y = 101 := by omega
    have cv : ∀ j : Nat, cnw (cM C) j (vC C y) = if 101 = 100 + j then 1 else 0 := fun j => by
      rw [ev, cnw_nd, e]
      simp
    refine ⟨by omega, by unfold rg; omega, by unfold rg; omega, fun d => by omega, fun d => ⟨by omega, fin 0 0 0 1 ?_ ?_ ?_ ?_⟩⟩ <;> rw [cv] <;> decide
  · have cv : ∀ j : Nat, cnw (cM C) j (vC C y) = if 100 = 100 + j then 1 else 0 := fun j => by
      rw [ev, cnw_nd, c]
      simp
    refine ⟨by omega, by unfold rg; omega, by unfold rg; omega, fun d => ⟨by omega, fin 0 0 1 0 ?_ ?_ ?_ ?_⟩, fun d => by omega⟩ <;> rw [cv] <;> decide
end H
