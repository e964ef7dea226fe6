/-! the reference: what is asked of terms; a term comes -/
section H
variable {M : Mem} {Q : Int → Mem → Prop} {N x n a b f : Int}
theorem m_closed (h : TM M N) (hx : 0 ≤ x ∧ x < N) (h15 : siz (vM M x) ≤ 15) (q1 : occ 100 (vM M x) = 0 ∧ occ 101 (vM M x) = 0 → ∀ M', gsame M M' → Q 1 M') (q0 : ¬ (occ 100 (vM M x) = 0 ∧ occ 101 (vM M x) = 0) → ∀ M', gsame M M' → Q 0 M') : w_X4_isClosed M x Q := by
  refine m_gt h hx h15 (fun M' n hg hn w => ?_)
  have t' := gsame_TM hg h
  have e4 : M' 4 = M 4 := hg.1 4 (by decide) (by decide)
  have h7 := h.2.1
  have L : ∀ (k j : Nat), j ≤ n → n - j < k → (∀ i : Nat, i < j → M 4 (M' 7 i) < 100) → w_X4_isClosed_L7 Q k M' j := by
    intro k
    induction k with
    | zero => intro j h1 h2; omega
    | succ k ih =>
      intro j h1 h2 h3
      rw [w_X4_isClosed_L7]
      refine ⟨fun z => q1 ?_ M' hg, fun z => ?_⟩
      · have hall : allF (fun p => p < 100) (vM M x) := (w.all h _).mpr (fun i hi => by have := h3 i (by omega); have := (h.fr (w.2.2.2.1 i hi)).1; omega)
        have no : ∀ p : Nat, 100 ≤ p → occ p (vM M x) = 0 := fun p hp => by
          have := occ_nn p (vM M x)
          by_cases c : 0 < occ p (vM M x)
          · have := occ_pos_all _ hall c
            omega
          · omega
        exact ⟨no 100 (by decide), no 101 (by decide)⟩
      · have hj := w.2.2.2.1 j (by omega)
        have h15' := w.1
        refine ⟨by omega, by omega, fun c => ⟨by unfold rg; omega, ?_⟩, fun c => q0 (fun hc => ?_) M' hg⟩
        · rw [e4] at c
          have := ih (j + 1) (by omega) (by omega) (fun i hi => by
            by_cases e : i = j
            · rw [e]
              exact c
            · exact h3 i (by omega))
          simpa using this
        · rw [e4] at c
          have hf := h.fr hj
          have hN := h.2.2.1
          have hc2 : M 4 (M' 7 j) = 100 ∨ M 4 (M' 7 j) = 101 := by omega
          rcases hc2 with e | e
          · have := (w.mem 100).mpr ⟨j, by omega, e⟩
            omega
          · have := (w.mem 101).mpr ⟨j, by omega, e⟩
            omega
  exact ⟨n + 1, L (n + 1) 0 (by omega) (by omega) (fun i hi => by omega)⟩
theorem m_may (h : TM M N) (hx : 0 ≤ x ∧ x < N) (hn0 : 0 ≤ n ∧ n < M 0 0) (h15 : siz (vM M x) ≤ 15) (q1 : allF (okd n (M 1 n)) (vM M x) → ∀ M', gsame M M' → Q 1 M') (q0 : ¬ allF (okd n (M 1 n)) (vM M x) → ∀ M', gsame M M' → Q 0 M') : w_X4_mayDefine M n x Q := by
  refine m_gt h hx h15 (fun M' m hg hn w => ?_)
  have e4 : M' 4 = M 4 := hg.1 4 (by decide) (by decide)
  have e1 : M' 1 = M 1 := hg.1 1 (by decide) (by decide)
  have h7 := h.2.1
  have hN := h.2.2.1
  have L : ∀ (k j : Nat), j ≤ m → m - j < k → (∀ i : Nat, i < j → okd n (M 1 n) (M 4 (M' 7 i)).toNat) → w_X4_mayDefine_L7 Q k M' n j := by
    intro k
    induction k with
    | zero => intro j h1 h2; omega
    | succ k ih =>
      intro j h1 h2 h3
      rw [w_X4_mayDefine_L7]
      refine ⟨fun z => q1 ((w.all h _).mpr (fun i hi => h3 i (by omega))) M' hg, fun z => ?_⟩
      have hj := w.2.2.2.1 j (by omega)
      have hf := h.fr hj
      have h15' := w.1
      have go : okd n (M 1 n) (M 4 (M' 7 j)).toNat → rg ((j : Int) + 1) ∧ w_X4_mayDefine_L7 Q k M' n ((j : Int) + 1) := fun ho => by
        refine ⟨by unfold rg; omega, ?_⟩
        have := ih (j + 1) (by omega) (by omega) (fun i hi => by
          by_cases e : i = j
          · rw [e]
            exact ho
          · exact h3 i (by omega))
        simpa using this
      have no : ¬ okd n (M 1 n) (M 4 (M' 7 j)).toNat → Q 0 M' := fun ho => q0 (fun hall => ho ((w.all h _).mp hall j (by omega))) M' hg
      rw [e4, e1]
      refine ⟨by omega, by omega, fun c => ⟨by unfold rg; omega, by omega, fun d => go ?_, fun d => no ?_⟩, fun c => ⟨fun d => go ?_, fun d => no ?_⟩⟩ <;> unfold okd <;> omega
  exact ⟨m + 1, L (m + 1) 0 (by omega) (by omega) (fun i hi => by omega)⟩
theorem m_psz (h : TM M N) (hx : 0 ≤ x ∧ x < N) (h15 : siz (vM M x) ≤ 15) (q : ∀ M', gsame M M' → Q (siz (vM M x)) M') : w_X4_plainSize M x Q :=
  m_gt h hx h15 (fun M' n hg hn w => by
    rw [hn, w.2.1]
    exact q M' hg)
theorem psum_wt (g : Int → Int) (o t : Int) : ∀ k : Nat, psum (fun j => if g j < 100 then 1 else if g j = 100 then o else t) k = k + (psum (fun j => if g j = 100 then 1 else 0) k) * (o - 1) + (psum (fun j => if 100 < g j then 1 else 0) k) * (t - 1)
  | 0 => by simp [psum]
  | k + 1 => by
    rw [psum, psum, psum, psum_wt g o t k]
    by_cases c : g k < 100
    · rw [if_pos c, if_neg (show ¬ g k = 100 by omega), if_neg (show ¬ 100 < g k by omega)]
      simp only [Int.add_zero]
      omega
    · by_cases c2 : g k = 100
      · rw [if_neg c, if_pos c2, if_neg (show ¬ 100 < g k by omega), if_pos c2, Int.add_mul]
        simp only [Int.add_zero]
        omega
      · rw [if_neg c, if_neg c2, if_neg c2, if_pos (show 100 < g k by omega), Int.add_mul (psum (fun j => if 100 < g j then 1 else 0) k)]
        simp only [Int.add_zero]
        omega
def uszM (M : Mem) (x : Int) : Int := if 100 ≤ M 4 x then 0 else if M 2 (M 4 x) ≠ -9 ∧ M 3 (M 4 x) = 0 then siz (vM M (M 2 (M 4 x))) + occ 100 (vM M (M 2 (M 4 x))) * (siz (vM M (M 5 (2 * x))) - 1) + occ 101 (vM M (M 2 (M 4 x))) * (siz (vM M (M 5 (2 * x + 1))) - 1) else 0
theorem m_uszL {o t : Int} {y : Int} (h : TM M N) (hy : 0 ≤ y ∧ y < N) (h15 : siz (vM M y) ≤ 15) (ho : 0 ≤ o ∧ o ≤ 15) (ht : 0 ≤ t ∧ t ≤ 15) (q : ∀ M', gsame M M' → Q (siz (vM M y) + occ 100 (vM M y) * (o - 1) + occ 101 (vM M y) * (t - 1)) M') : w_X4_goesThrough M y (fun M5 => (∃ n106, w_X4_unfoldedSize_L106 Q n106 M5 o t 0 0)) := by
  refine m_gt h hy h15 (fun M' n hg hn w => ?_)
  have e4 : M' 4 = M 4 := hg.1 4 (by decide) (by decide)
  have h7 := h.2.1
  have hN := h.2.2.1
  have bd : ∀ k : Nat, 0 ≤ psum (fun j => if M 4 (M' 7 j) < 100 then 1 else if M 4 (M' 7 j) = 100 then o else t) k ∧ psum (fun j => if M 4 (M' 7 j) < 100 then 1 else if M 4 (M' 7 j) = 100 then o else t) k ≤ 15 * k := by
    intro k
    induction k with
    | zero => exact ⟨Int.le_refl 0, Int.le_refl 0⟩
    | succ k ik =>
      rw [psum]
      split
      · omega
      · split <;> omega
  have L : ∀ (k j : Nat), j ≤ n → n - j < k → w_X4_unfoldedSize_L106 Q k M' o t (psum (fun j => if M 4 (M' 7 j) < 100 then 1 else if M 4 (M' 7 j) = 100 then o else t) j) j := by
    intro k
    induction k with
    | zero => intro j h1 h2; omega
    | succ k ih =>
      intro j h1 h2
      have h15' := w.1
      have bj := bd j
      rw [w_X4_unfoldedSize_L106]
      refine ⟨fun z => ?_, fun z => ?_⟩
      · have e : j = n := by omega
        rw [e, psum_wt (fun j => M 4 (M' 7 j)) o t n]
        have c1 := w.2.2.2.2.1 100
        have c2 : psum (fun j => if 100 < M 4 (M' 7 j) then 1 else 0) n = occ 101 (vM M y) := by
          rw [← w.2.2.2.2.1 101]
          refine psum_ext n (fun j j0 j1 => ?_)
          have hj := w.2.2.2.1 j.toNat (by omega)
          rw [Int.toNat_of_nonneg j0] at hj
          have hf := h.fr hj
          by_cases c : 100 < M 4 (M' 7 j)
          · rw [if_pos c, if_pos (by omega)]
          · rw [if_neg c, if_neg (by omega)]
        have c1' : psum (fun j => if M 4 (M' 7 j) = 100 then 1 else 0) n = occ 100 (vM M y) := c1
        rw [c1', c2, w.2.1]
        exact q M' hg
      · have hj := w.2.2.2.1 j (by omega)
        have nx := ih (j + 1) (by omega) (by omega)
        rw [psum] at nx
        rw [e4]
        refine ⟨by omega, by omega, fun c => ⟨fun d => ⟨by unfold rl; omega, by unfold rg; omega, ?_⟩, fun d => ⟨by unfold rl; omega, by unfold rg; omega, ?_⟩⟩, fun c => ⟨by unfold rl; omega, by unfold rg; omega, ?_⟩⟩
        · rw [if_neg (by omega), if_neg d] at nx
          simpa using nx
        · rw [if_neg (by omega), if_pos d] at nx
          simpa using nx
        · rw [if_pos (by omega)] at nx
          simpa using nx
  exact ⟨n + 1, L (n + 1) 0 (by omega) (by omega)⟩
theorem gsame.tr {M1 M2 : Mem} (h : gsame M M1) (h2 : gsame M1 M2) : gsame M M2 := ⟨fun c a b => (h2.1 c a b).trans (h.1 c a b), fun i hi => (h2.2 i hi).trans (h.2 i hi)⟩
theorem gsame_vM {M' : Mem} (h : gsame M M') (y : Int) : vM M' y = vM M y := by
  unfold vM
  rw [gsame_pv h]
/-- the reference's tables are small: every term in them that is asked of has a depth of 4 at most -/
theorem m_usz (h : TM M N) (hx : 0 ≤ x ∧ x < N) (h15 : ∀ y, 0 ≤ y → y < N → siz (vM M y) ≤ 15) (hd : ∀ n, 0 ≤ n → n < M 0 0 → M 2 n = -9 ∨ (0 ≤ M 2 n ∧ M 2 n < N)) (q : ∀ M', gsame M M' → Q (uszM M x) M') : w_X4_unfoldedSize M x Q := by
  have hf := h.fr hx
  have h7 := h.2.1
  have hN := h.2.2.1
  have hpp := TM_parts h hx
  unfold uszM at q
  refine ⟨by omega, fun z => ?_, fun z => ⟨by omega, m_fold (by omega) (fun nf => ⟨fun e => absurd rfl e, fun _ => ?_⟩) (fun fo => ⟨fun _ => ⟨by omega, by omega, ?_⟩, fun e => absurd e (by decide)⟩)⟩⟩
  · rw [if_pos z] at q
    exact q M gsame.rf
  · rw [if_neg z, if_neg nf] at q
    exact q M gsame.rf
  · rw [if_neg z, if_pos fo] at q
    have ep : pcn M x = M 1 (M 4 x) := by
      unfold pcn
      rw [if_pos (by omega)]
    rw [ep] at hpp
    have hdf : 0 ≤ M 2 (M 4 x) ∧ M 2 (M 4 x) < N := by
      rcases hd _ hf.1 (by omega) with e | e
      · exact absurd e fo.1
      · exact e
    have sr : ∀ y, y < N → 0 ≤ siz (vM M y) ∧ siz (vM M y) ≤ 15 := fun y hy => by
      refine ⟨siz_nn _, ?_⟩
      by_cases c : y < 0
      · rw [vM_neg c, siz_nl]
        decide
      · exact h15 y (by omega) hy
    -- from the second part on
    have j54 : ∀ M1, gsame M M1 → w_X4_unfoldedSize_J54 Q M1 x (siz (vM M (M 5 (2 * x)))) := by
      intro M1 g1
      have h1 := gsame_TM g1 h
      have e4 : M1 4 = M 4 := g1.1 4 (by decide) (by decide)
      have e1 : M1 1 = M 1 := g1.1 1 (by decide) (by decide)
      have e2 : M1 2 = M 2 := g1.1 2 (by decide) (by decide)
      have e5 : M1 5 = M 5 := g1.1 5 (by decide) (by decide)
      have fin : ∀ M2, gsame M M2 → w_X4_unfoldedSize_J84 Q M2 x (siz (vM M (M 5 (2 * x)))) (siz (vM M (M 5 (2 * x + 1)))) := by
        intro M2 g2
        have t2 := gsame_TM g2 h
        have f4 : M2 4 = M 4 := g2.1 4 (by decide) (by decide)
        have f2 : M2 2 = M 2 := g2.1 2 (by decide) (by decide)
        unfold w_X4_unfoldedSize_J84
        rw [f4, f2]
        refine ⟨by omega, by omega, m_uszL t2 hdf (by rw [gsame_vM g2]; exact h15 _ hdf.1 hdf.2) ?_ ?_ (fun M3 g3 => ?_)⟩
        · refine sr _ ?_
          by_cases c : 0 < M 1 (M 4 x)
          · have := hpp.1 c
            omega
          · have := hpp.2.2.1 (by omega)
            omega
        · refine sr _ ?_
          by_cases c : 1 < M 1 (M 4 x)
          · have := hpp.2.1 c
            omega
          · have := hpp.2.2.2 (by omega)
            omega
        · rw [gsame_vM g2]
          exact q M3 (g2.tr g3)
      unfold w_X4_unfoldedSize_J54
      rw [e4, e1]
      refine ⟨by omega, by omega, fun c => ?_, fun c => ?_⟩
      · have := fin M1 g1
        rw [hpp.2.2.2 c, vM_neg (by decide : (-9 : Int) < 0), siz_nl] at this
        exact this
      · have hp1 := hpp.2.1 (by omega)
        refine m_part (by omega) (Or.inr rfl) ?_
        rw [e5]
        refine m_psz h1 (by omega) (by rw [gsame_vM g1]; exact h15 _ (by omega) (by omega)) (fun M2 g2 => ?_)
        rw [gsame_vM g1]
        exact fin M2 (g1.tr g2)
    refine ⟨fun c => ?_, fun c => ?_⟩
    · have := j54 M gsame.rf
      rw [hpp.2.2.1 (by omega), vM_neg (by decide : (-9 : Int) < 0), siz_nl] at this
      exact this
    · have hp0 := hpp.1 (by omega)
      refine m_part (by omega) (Or.inl rfl) ?_
      rw [Int.add_zero]
      exact m_psz h (by omega) (h15 _ (by omega) (by omega)) (fun M2 g2 => j54 M2 g2)
end H
