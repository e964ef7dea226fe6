/-! heights, fronts and counts of wholes, in the class -/
theorem mxh_facts (h : Int → Int) (t : Tr) : 0 ≤ mxh h t ∧ (∀ f : Nat, f < 100 → 0 < occ f t → h f ≤ mxh h t) ∧ (mxh h t = 0 ∨ ∃ f : Nat, f < 100 ∧ 0 < occ f t ∧ h f = mxh h t) := by
  refine tr_ind (P := fun t => 0 ≤ mxh h t ∧ (∀ f : Nat, f < 100 → 0 < occ f t → h f ≤ mxh h t) ∧ (mxh h t = 0 ∨ ∃ f : Nat, f < 100 ∧ 0 < occ f t ∧ h f = mxh h t)) ?_ ?_ t
  · intro t hn
    rw [tr_leaf (mxh h) 0 (fun _ => rfl) (fun _ _ _ => rfl) (fun _ _ => rfl) t hn]
    refine ⟨Int.le_refl _, fun f _ q => ?_, Or.inl rfl⟩
    rw [tr_leaf (occ f) 0 (fun _ => rfl) (fun _ _ _ => rfl) (fun _ _ => rfl) t hn] at q
    omega
  · intro f a b ha hb
    rw [mxh_nd]
    have hm : ∀ u v : Int, u ≤ imax u v ∧ v ≤ imax u v ∧ (imax u v = u ∨ imax u v = v) := fun u v => by
      unfold imax
      split <;> omega
    have m1 := hm (mxh h a) (mxh h b)
    have m2 := hm (imax (mxh h a) (mxh h b)) (if 100 ≤ f then 0 else h f)
    refine ⟨by omega, fun g hg q => ?_, ?_⟩
    · rw [occ_nd] at q
      have na := occ_nn g a
      have nb := occ_nn g b
      by_cases q1 : 0 < occ g a
      · have := ha.2.1 g hg q1
        omega
      · by_cases q2 : 0 < occ g b
        · have := hb.2.1 g hg q2
          omega
        · by_cases e : f = g
          · rw [if_neg (by omega : ¬ 100 ≤ f)] at m2 ⊢
            rw [e] at m2 ⊢
            omega
          · rw [if_neg e] at q
            omega
    · have up1 : ∀ g : Nat, 0 < occ g a → 0 < occ g (nd f a b) := fun g q => by
        rw [occ_nd]
        have nb := occ_nn g b
        split <;> omega
      have up2 : ∀ g : Nat, 0 < occ g b → 0 < occ g (nd f a b) := fun g q => by
        rw [occ_nd]
        have na := occ_nn g a
        split <;> omega
      rcases m2.2.2 with e | e
      · rw [e]
        rcases m1.2.2 with e1 | e1
        · rw [e1]
          rcases ha.2.2 with q | ⟨g, q1, q2, q3⟩
          · exact Or.inl q
          · exact Or.inr ⟨g, q1, up1 g q2, q3⟩
        · rw [e1]
          rcases hb.2.2 with q | ⟨g, q1, q2, q3⟩
          · exact Or.inl q
          · exact Or.inr ⟨g, q1, up2 g q2, q3⟩
      · rw [e]
        by_cases q : 100 ≤ f
        · rw [if_pos q]
          exact Or.inl rfl
        · rw [if_neg q]
          refine Or.inr ⟨f, by omega, ?_, rfl⟩
          rw [occ_nd, if_pos rfl]
          have na := occ_nn f a
          have nb := occ_nn f b
          omega
theorem mxh_ext {h h' : Int → Int} (t : Tr) : allF (fun f => f < 100 → h f = h' f) t → mxh h t = mxh h' t := by
  refine tr_ind (P := fun t => allF (fun f => f < 100 → h f = h' f) t → mxh h t = mxh h' t) ?_ ?_ t
  · intro t hn _
    rw [tr_leaf (mxh h) 0 (fun _ => rfl) (fun _ _ _ => rfl) (fun _ _ => rfl) t hn, tr_leaf (mxh h') 0 (fun _ => rfl) (fun _ _ _ => rfl) (fun _ _ => rfl) t hn]
  · intro f a b ha hb q
    rw [allF_nd] at q
    rw [mxh_nd, mxh_nd, ha q.2.1, hb q.2.2]
    by_cases e : 100 ≤ f
    · rw [if_pos e, if_pos e]
    · rw [if_neg e, if_neg e, q.1 (by omega)]
theorem hdw_ext {h h' : Int → Int} (t : Tr) : allF (fun f => f < 100 → h f = h' f) t → hdw h t = hdw h' t := by
  refine tr_ind (P := fun t => allF (fun f => f < 100 → h f = h' f) t → hdw h t = hdw h' t) ?_ ?_ t
  · intro t hn _
    rw [tr_leaf (hdw h) (-9) (fun _ => rfl) (fun _ _ _ => rfl) (fun _ _ => rfl) t hn, tr_leaf (hdw h') (-9) (fun _ => rfl) (fun _ _ _ => rfl) (fun _ _ => rfl) t hn]
  · intro f a b ha hb q
    rw [allF_nd] at q
    rw [hdw_nd, hdw_nd, ha q.2.1, hb q.2.2]
    by_cases e : 100 ≤ f
    · rw [if_pos e, if_pos e]
    · rw [if_neg e, if_neg e, q.1 (by omega)]
theorem cnw_ext {c c' : Nat → Int → Int} {k : Nat} (t : Tr) : allF (fun f => f < 100 → c 0 f = c' 0 f ∧ c 1 f = c' 1 f ∧ (2 ≤ k → c k f = c' k f)) t → cnw c k t = cnw c' k t := by
  refine tr_ind (P := fun t => allF (fun f => f < 100 → c 0 f = c' 0 f ∧ c 1 f = c' 1 f ∧ (2 ≤ k → c k f = c' k f)) t → cnw c k t = cnw c' k t) ?_ ?_ t
  · intro t hn _
    rw [tr_leaf (cnw c k) 0 (fun _ => rfl) (fun _ _ _ => rfl) (fun _ _ => rfl) t hn, tr_leaf (cnw c' k) 0 (fun _ => rfl) (fun _ _ _ => rfl) (fun _ _ => rfl) t hn]
  · intro f a b ha hb q
    rw [allF_nd] at q
    rw [cnw_nd, cnw_nd, ha q.2.1, hb q.2.2]
    by_cases e : 100 ≤ f
    · rw [if_pos e, if_pos e]
    · obtain ⟨q1, q2, q3⟩ := q.1 (by omega)
      rw [if_neg e, if_neg e, q1, q2]
      by_cases e2 : k < 2
      · rw [if_pos e2, if_pos e2]
      · rw [if_neg e2, if_neg e2, q3 (by omega)]
/-- saturating sums and products -/
def sat (a : Int) : Prop := 0 ≤ a ∧ a ≤ 1000000000000000
theorem sat_sadd {a b : Int} (ha : sat a) (hb : sat b) : sat (sadd a b) := by
  unfold sat sadd imin MOST at *
  split <;> omega
theorem sat_smul {a b : Int} (ha : sat a) (hb : sat b) : sat (smul a b) := by
  unfold sat smul MOST at *
  have : 0 ≤ a * b := Int.mul_nonneg ha.1 hb.1
  split <;> omega
theorem sadd_z {a b : Int} (ha : sat a) : sadd a (smul b 0) = a := by
  unfold sat at ha
  unfold sadd smul imin MOST
  rw [Int.mul_zero, if_pos (show (0 : Int) ≤ 1000000000000000 by decide)]
  split <;> omega
section H
variable {M : Mem} {Q : Int → Mem → Prop} {x y : Int}
theorem h_sum (hx : sat x) (hy : sat y) (q : Q (sadd x y) M) : w_X1_sum M x y Q := by
  unfold sat at hx hy
  exact ⟨by unfold rl; omega, q⟩
theorem lcm_z (a : Int) : lcm a 0 = 0 ↔ a = 0 := by
  unfold lcm
  split
  · omega
  · split <;> omega
theorem lcm_le (a b : Int) : lcm a b ≤ 0 ↔ a ≤ b := by
  unfold lcm
  split
  · omega
  · split <;> omega
theorem h_prod (hx : sat x) (hy : sat y) (q : Q (smul x y) M) : w_X1_product M x y Q := by
  have hx' := hx
  have hy' := hy
  unfold sat at hx hy
  unfold smul MOST at q
  refine ⟨fun h => ?_, fun h => ⟨fun h2 => ?_, fun h2 => ?_⟩⟩
  · rw [lcm_z] at h
    rw [h, Int.zero_mul, if_pos (by decide)] at q
    exact q
  · rw [lcm_z] at h h2
    have hpos : 0 < y := by omega
    have e : Int.tdiv 1000000000000000 y = 1000000000000000 / y := Int.tdiv_eq_ediv_of_nonneg (by decide)
    rw [e]
    have hdiv : 1000000000000000 / y ≤ 1000000000000000 := Int.ediv_le_self _ (by decide)
    have hdiv0 : 0 ≤ 1000000000000000 / y := Int.ediv_nonneg (by decide) (by omega)
    refine ⟨h2, by unfold rl; omega, fun h3 => ?_, fun h3 => ?_⟩
    · rw [lcm_le] at h3
      have h4 : x * y ≤ 1000000000000000 := (Int.le_ediv_iff_mul_le hpos).mp h3
      have h5 : 0 ≤ x * y := Int.mul_nonneg hx.1 hy.1
      rw [if_pos h4] at q
      exact ⟨by unfold rl; omega, q⟩
    · rw [lcm_le] at h3
      have h4 : ¬ x * y ≤ 1000000000000000 := fun z => h3 ((Int.le_ediv_iff_mul_le hpos).mpr z)
      rw [if_neg h4] at q
      exact q
  · rw [lcm_z] at h2
    rw [h2, Int.mul_zero, if_pos (by decide)] at q
    exact q
/-- the greatest height in a term -/
theorem h_ghtL {t : Tr} (h12 : M 2 7 ≤ 12) (ht : allF (fun f => (f : Int) < M 2 7 ∨ 100 ≤ f) t) (q : Q (mxh (M 15) t) M) :
    ∀ (n : Nat) (x3 x4 : Int), 0 ≤ x4 → x4 ≤ M 2 7 → M 2 7 - x4 < n → 0 ≤ x3 → (∀ f : Nat, (f : Int) < x4 → 0 < occ f t → M 15 f ≤ x3) → (x3 = 0 ∨ ∃ f : Nat, (f : Int) < x4 ∧ 0 < occ f t ∧ M 15 f = x3) → w_X1_greatestHeightIn_L14 Q n M (msk t) x3 x4 := by
  have ht2 : allF (fun f => f < 12 ∨ 100 ≤ f) t := allF_mono (fun f hf => by omega) t ht
  intro n
  induction n with
  | zero => intro x3 x4 h0 h1 h2; omega
  | succ n ih =>
    intro x3 x4 h0 h1 h2 h3 h4 h5
    rw [w_X1_greatestHeightIn_L14]
    have ex : x4 = ((x4.toNat : Nat) : Int) := by omega
    refine ⟨fun h => ?_, fun h => ⟨fun hb => ⟨by unfold rg; omega, ?_⟩, fun hb => ⟨by omega, by unfold rg; omega, ?_⟩⟩⟩
    · have e : x3 = mxh (M 15) t := by
        obtain ⟨m0, m1, m2⟩ := mxh_facts (M 15) t
        have l1 : x3 ≤ mxh (M 15) t := by
          rcases h5 with e | ⟨f, f1, f2, f3⟩
          · omega
          · have := m1 f (by omega) f2
            omega
        have l2 : mxh (M 15) t ≤ x3 := by
          rcases m2 with e | ⟨f, f1, f2, f3⟩
          · omega
          · have h6 := occ_pos_all t ht f2
            have := h4 f (by omega) f2
            omega
        omega
      rw [e]
      exact q
    · have hnb : ¬ 0 < occ x4.toNat t := fun z => hb (by rw [ex]; exact (bit_iff ht2 (by omega)).mpr z)
      refine ih x3 (x4 + 1) (by omega) (by omega) (by omega) h3 (fun f f1 f2 => ?_) ?_
      · by_cases e : f = x4.toNat
        · rw [e] at f2
          exact absurd f2 hnb
        · exact h4 f (by omega) f2
      · rcases h5 with e | ⟨f, f1, f2, f3⟩
        · exact Or.inl e
        · exact Or.inr ⟨f, by omega, f2, f3⟩
    · have hnb : 0 < occ x4.toNat t := by
        rw [ex] at hb
        exact (bit_iff ht2 (by omega)).mp hb
      have hm : x3 ≤ imax x3 (M 15 x4) ∧ M 15 x4 ≤ imax x3 (M 15 x4) ∧ (imax x3 (M 15 x4) = x3 ∨ imax x3 (M 15 x4) = M 15 x4) := by
        unfold imax
        split <;> omega
      refine ih _ (x4 + 1) (by omega) (by omega) (by omega) (by omega) (fun f f1 f2 => ?_) ?_
      · by_cases e : (f : Int) = x4
        · rw [e]
          exact hm.2.1
        · have := h4 f (by omega) f2
          omega
      · rcases hm.2.2 with e | e
        · rw [e]
          rcases h5 with e | ⟨f, f1, f2, f3⟩
          · exact Or.inl e
          · exact Or.inr ⟨f, by omega, f2, f3⟩
        · rw [e]
          exact Or.inr ⟨x4.toNat, by omega, hnb, by rw [← ex]⟩
theorem h_ght {t : Tr} (h9 : M 1 8 ≤ 90) (h12 : 0 ≤ M 2 7 ∧ M 2 7 ≤ 12) (hx : 0 ≤ x ∧ x < M 1 8) (hm : M 9 x = msk t) (ht : allF (fun f => (f : Int) < M 2 7 ∨ 100 ≤ f) t) (q : Q (mxh (M 15) t) M) : w_X1_greatestHeightIn M x Q := by
  refine h_nin h9 (fun _ => ?_) (fun z => absurd hx z)
  rw [hm]
  exact ⟨(M 2 7).toNat + 1, h_ghtL h12.2 ht q _ 0 0 (Int.le_refl 0) h12.1 (by omega) (Int.le_refl 0) (fun f z => by omega) (Or.inl rfl)⟩
end H
