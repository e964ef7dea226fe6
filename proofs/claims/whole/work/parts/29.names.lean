/-! the class: names come, are defined, are covered -/
theorem ncache_ext {M M' : Mem} {k : Int} (h : ∀ c i, c = 12 ∨ c = 13 ∨ c = 14 ∨ c = 15 ∨ c = 16 ∨ (18 ≤ c ∧ c ≤ 21) → i ≤ k → M' c i = M c i) (hv : vC M' (M 13 k) = vC M (M 13 k)) (hB : NB M) (hk : 0 ≤ k ∧ k < M 2 7) (hh : ncache M k ∧ nrange M k) : ncache M' k ∧ nrange M' k := by
  obtain ⟨⟨q1, q2⟩, q3⟩ := hh
  have lk : k ≤ k := Int.le_refl k
  have e12 := h 12 k (by omega) lk
  have e13 := h 13 k (by omega) lk
  have e14 := h 14 k (by omega) lk
  refine ⟨⟨?_, ?_⟩, ?_⟩
  · unfold fold
    rw [e12, e13, e14, h 15 k (by omega) lk, h 16 k (by omega) lk, h 18 k (by omega) lk, h 19 k (by omega) lk, h 20 k (by omega) lk, h 21 k (by omega) lk]
    exact q1
  · unfold fold
    rw [e13, e14, h 15 k (by omega) lk, h 16 k (by omega) lk, h 18 k (by omega) lk, h 19 k (by omega) lk, h 20 k (by omega) lk, h 21 k (by omega) lk, hv]
    intro hf
    have hdef : allF (okd k (M 12 k)) (vC M (M 13 k)) := by
      rcases (hB.2.2 k hk.1 hk.2).2.2 with z | z
      · exact absurd z hf.1
      · exact z.2.2
    have x1 : ∀ c, c = 15 ∨ c = 16 → allF (fun f => f < 100 → M' c f = M c f) (vC M (M 13 k)) := fun c hc => allF_mono (fun f hf (hl : f < 100) => h c f (by omega) (by unfold okd at hf; omega)) _ hdef
    have x2 : ∀ c3, c3 < 4 → allF (fun f => f < 100 → M' 18 f = M 18 f ∧ M' 19 f = M 19 f ∧ (2 ≤ c3 → M' (18 + c3) f = M (18 + c3) f)) (vC M (M 13 k)) := fun c3 h3 => allF_mono (fun f hf (hl : f < 100) => ⟨h 18 f (by omega) (by unfold okd at hf; omega), h 19 f (by omega) (by unfold okd at hf; omega), fun _ => h _ f (by omega) (by unfold okd at hf; omega)⟩) _ hdef
    rw [mxh_ext _ (x1 15 (by omega)), hdw_ext _ (x1 16 (by omega)), cnw_ext (c' := fun i => M (18 + i)) (k := 0) _ (x2 0 (by omega)), cnw_ext (c' := fun i => M (18 + i)) (k := 1) _ (x2 1 (by omega)), cnw_ext (c' := fun i => M (18 + i)) (k := 2) _ (x2 2 (by omega)), cnw_ext (c' := fun i => M (18 + i)) (k := 3) _ (x2 3 (by omega))]
    exact q2 hf
  · unfold nrange
    rw [e12, h 15 k (by omega) lk, h 16 k (by omega) lk, h 18 k (by omega) lk, h 19 k (by omega) lk, h 20 k (by omega) lk, h 21 k (by omega) lk]
    exact q3
/-- the fronts in a table -/
theorem fr_all {M : Mem} {N : Int} (hT : TB M N) (h12 : M 2 7 ≤ 12) : ∀ (k : Nat) (x : Int), x < k → x < N → allF (fun f => ((f : Int) < M 2 7 ∧ f < 12) ∨ f = 100 ∨ f = 101) (vC M x) := by
  intro k
  induction k with
  | zero =>
    intro x h1 h2
    rw [vC_neg (by omega)]
    exact allF_nl _
  | succ k ih =>
    intro x h1 h2
    by_cases h0 : x < 0
    · rw [vC_neg h0]
      exact allF_nl _
    · rw [vC_eq hT (by omega) h2, allF_nd]
      have hw := hT.wf x (by omega) h2
      have hf := hT.fr (by omega) h2 h12
      exact ⟨by omega, ih _ (by omega) (by omega), ih _ (by omega) (by omega)⟩
/-- which cells a change of the names leaves -/
def nsame (C C' : Mem) : Prop := (∀ c : Nat, c = 1 ∨ (3 ≤ c ∧ c ≤ 11) ∨ 22 ≤ c → C' c = C c)
section H
variable {C : Mem} {Q : Int → Mem → Prop} {n x a : Int}
theorem inv_settled {C1 C' : Mem} (hb : b01 (C1 3 12)) (hc : Core C1) (hs : sb C1 C') (hN : NC C' (C1 2 7)) : InvC C' := by
  obtain ⟨hB, ht, hT, hTC⟩ := sb_Core hs hc
  have e2 : C' 2 = C1 2 := hs 2 (by decide) (by decide) (by decide)
  have e3 : C' 3 = C1 3 := hs 3 (by decide) (by decide) (by decide)
  exact ⟨hB, ht, hT, hTC, by rw [e2]; exact hN, by rw [e3]; exact hb⟩
theorem c_name (hI : InvC C) (q0 : ¬ (0 ≤ a ∧ a ≤ 2) → Q (-2) C) (q1 : 0 ≤ a ∧ a ≤ 2 → C 2 7 = 12 → Q (-4) C)
    (q2 : 0 ≤ a ∧ a ≤ 2 → C 2 7 < 12 → ∀ C', InvC C' → nsame C C' → C' 2 7 = C 2 7 + 1 → (C' 12 (C 2 7) = a ∧ C' 13 (C 2 7) = -9 ∧ C' 14 (C 2 7) = 0) → (∀ i, i ≠ C 2 7 → C' 12 i = C 12 i ∧ C' 13 i = C 13 i ∧ C' 14 i = C 14 i) → Q (C 2 7) C') : w_X3_name C a Q := by
  obtain ⟨hB, ⟨t0, t9, th⟩, hT, hTC, hNC, hb⟩ := id hI
  refine ⟨fun z => q0 (by omega), fun z => ⟨fun z2 => ⟨fun h => ?_, fun h => q1 (by omega) (by have := hB.2.1; omega)⟩, fun z2 => q0 (by omega)⟩⟩
  have hn0 := hB.1
  refine ⟨by omega, by omega, by omega, ?_, ?_⟩
  · show rg (C 2 7 + 1)
    unfold rg
    omega
  · show w_X1_settleFrom (up (up (up (up C 12 (C 2 7) a) 13 (C 2 7) (-9)) 14 (C 2 7) 0) 2 7 (C 2 7 + 1)) (C 2 7) (fun M9 => Q (C 2 7) M9)
    generalize hC1 : up (up (up (up C 12 (C 2 7) a) 13 (C 2 7) (-9)) 14 (C 2 7) 0) 2 7 (C 2 7 + 1) = C1
    have k27 : C1 2 7 = C 2 7 + 1 := by rw [← hC1]; simp [up]
    have k12 : ∀ i, C1 12 i = if i = C 2 7 then a else C 12 i := fun i => by rw [← hC1]; simp [up]
    have k13 : ∀ i, C1 13 i = if i = C 2 7 then -9 else C 13 i := fun i => by rw [← hC1]; simp [up]
    have k14 : ∀ i, C1 14 i = if i = C 2 7 then 0 else C 14 i := fun i => by rw [← hC1]; simp [up]
    have ko : ∀ c, c ≠ 2 → c ≠ 12 → c ≠ 13 → c ≠ 14 → C1 c = C c := fun c a1 a2 a3 a4 => by rw [← hC1, up_off a1, up_off a4, up_off a3, up_off a2]
    have ev : ∀ x, vC C1 x = vC C x := fun x => by
      unfold vC
      rw [ko 4 (by decide) (by decide) (by decide) (by decide), ko 5 (by decide) (by decide) (by decide) (by decide), ko 6 (by decide) (by decide) (by decide) (by decide)]
    have e1 : C1 1 = C 1 := ko 1 (by decide) (by decide) (by decide) (by decide)
    have hB1 : NB C1 := by
      refine ⟨by omega, by omega, fun n n0 n1 => ?_⟩
      rw [k12, k13, k14]
      by_cases e : n = C 2 7
      · rw [if_pos e, if_pos e, if_pos e]
        exact ⟨by omega, Or.inl rfl, Or.inl rfl⟩
      · rw [if_neg e, if_neg e, if_neg e, e1, ev]
        exact hB.2.2 n n0 (by omega)
    have hT1 : TB C1 (C1 1 8) := by
      rw [e1]
      refine ⟨fun x h0 h1 => ?_, ?_⟩
      · have := hT.1 x h0 h1
        unfold tnode
        rw [ko 4 (by decide) (by decide) (by decide) (by decide), ko 5 (by decide) (by decide) (by decide) (by decide), ko 6 (by decide) (by decide) (by decide) (by decide)]
        rcases this with h | h
        · exact Or.inl h
        · refine Or.inr ?_
          rw [k12, if_neg (by omega), k27]
          exact ⟨by omega, h.2⟩
      · rw [ko 4 (by decide) (by decide) (by decide) (by decide), ko 5 (by decide) (by decide) (by decide) (by decide), ko 6 (by decide) (by decide) (by decide) (by decide)]
        exact hT.2
    have hTC1 : TC C1 (C1 1 8) := by
      rw [e1]
      intro x h0 h1
      unfold tcache
      rw [ev, ko 7 (by decide) (by decide) (by decide) (by decide), ko 8 (by decide) (by decide) (by decide) (by decide), ko 9 (by decide) (by decide) (by decide) (by decide), ko 10 (by decide) (by decide) (by decide) (by decide), ko 11 (by decide) (by decide) (by decide) (by decide)]
      exact hTC x h0 h1
    have hc1 : Core C1 := ⟨hB1, by rw [e1]; exact ⟨t0, t9, th⟩, hT1, hTC1⟩
    have hN1 : NC C1 (C 2 7) := by
      intro n n0 n1
      refine ncache_ext (fun c i hc hi => ?_) (ev _) hB ⟨n0, n1⟩ (hNC n n0 n1)
      rcases hc with h | h | h | h | h | h
      · rw [h, k12, if_neg (by omega)]
      · rw [h, k13, if_neg (by omega)]
      · rw [h, k14, if_neg (by omega)]
      · rw [ko c (by omega) (by omega) (by omega) (by omega)]
      · rw [ko c (by omega) (by omega) (by omega) (by omega)]
      · rw [ko c (by omega) (by omega) (by omega) (by omega)]
    refine h_settle hc1 ⟨by omega, by omega⟩ hN1 (fun C' hs hN => ?_)
    have hb1 : b01 (C1 3 12) := by
      rw [ko 3 (by decide) (by decide) (by decide) (by decide)]
      exact hb
    refine q2 (by omega) (by omega) C' (inv_settled hb1 hc1 hs hN) (fun c hc => ?_) ?_ ⟨?_, ?_, ?_⟩ (fun i hi => ⟨?_, ?_, ?_⟩)
    · rw [hs c (by omega) (by omega) (by omega), ko c (by omega) (by omega) (by omega) (by omega)]
    · rw [hs 2 (by decide) (by decide) (by decide), k27]
    · rw [hs 12 (by decide) (by decide) (by decide), k12, if_pos rfl]
    · rw [hs 13 (by decide) (by decide) (by decide), k13, if_pos rfl]
    · rw [hs 14 (by decide) (by decide) (by decide), k14, if_pos rfl]
    · rw [hs 12 (by decide) (by decide) (by decide), k12, if_neg hi]
    · rw [hs 13 (by decide) (by decide) (by decide), k13, if_neg hi]
    · rw [hs 14 (by decide) (by decide) (by decide), k14, if_neg hi]
/-- one of a name's marks changes: its definition, or its opaqueness -/
theorem h_mark {Q : Mem → Prop} {c0 : Nat} {v : Int} (hI : InvC C) (hn : 0 ≤ n ∧ n < C 2 7) (hc0 : (c0 = 13 ∧ (v = -9 ∨ (0 ≤ v ∧ v < C 1 8 ∧ allF (okd n (C 12 n)) (vC C v)))) ∨ (c0 = 14 ∧ b01 v))
    (q : ∀ C', InvC C' → nsame C C' → C' 2 = C 2 → C' 12 = C 12 → (∀ c i, c = 13 ∨ c = 14 → C' c i = if c = c0 ∧ i = n then v else C c i) → Q C') : w_X1_settleFrom (up C c0 n v) n Q := by
  obtain ⟨hB, ⟨t0, t9, th⟩, hT, hTC, hNC, hb⟩ := id hI
  have hc1314 : c0 = 13 ∨ c0 = 14 := by rcases hc0 with h | h <;> omega
  generalize hC1 : up C c0 n v = C1
  have ko : ∀ c, c ≠ c0 → C1 c = C c := fun c a1 => by rw [← hC1, up_off a1]
  have kv : ∀ c i, C1 c i = if c = c0 ∧ i = n then v else C c i := fun c i => by
    rw [← hC1]
    by_cases e : c = c0
    · subst e
      rw [up_at]
      by_cases e2 : i = n
      · simp [e2]
      · simp [e2]
    · rw [up_off e, if_neg (fun z => e z.1)]
  have ev : ∀ x, vC C1 x = vC C x := fun x => by
    unfold vC
    rw [ko 4 (by omega), ko 5 (by omega), ko 6 (by omega)]
  have e1 : C1 1 = C 1 := ko 1 (by omega)
  have e2 : C1 2 = C 2 := ko 2 (by omega)
  have e12 : C1 12 = C 12 := ko 12 (by omega)
  have hB1 : NB C1 := by
    refine ⟨by rw [e2]; exact hB.1, by rw [e2]; exact hB.2.1, fun m m0 m1 => ?_⟩
    rw [e2] at m1
    have hm := hB.2.2 m m0 m1
    rw [e12, e1]
    refine ⟨hm.1, ?_, ?_⟩
    · rw [kv]
      by_cases e : 14 = c0 ∧ m = n
      · rw [if_pos e]
        rcases hc0 with h | h
        · omega
        · exact h.2
      · rw [if_neg e]
        exact hm.2.1
    · rw [kv, ev]
      by_cases e : 13 = c0 ∧ m = n
      · rw [if_pos e]
        rcases hc0 with h | h
        · rw [e.2]
          exact h.2
        · omega
      · rw [if_neg e]
        exact hm.2.2
  have hT1 : TB C1 (C1 1 8) := by
    unfold TB tnode
    rw [e1, e2, e12, ko 4 (by omega), ko 5 (by omega), ko 6 (by omega)]
    exact hT
  have hTC1 : TC C1 (C1 1 8) := by
    rw [e1]
    intro x h0 h1
    unfold tcache
    rw [ev, ko 7 (by omega), ko 8 (by omega), ko 9 (by omega), ko 10 (by omega), ko 11 (by omega)]
    exact hTC x h0 h1
  have hcc : Core C1 := ⟨hB1, by rw [e1]; exact ⟨t0, t9, th⟩, hT1, hTC1⟩
  have hN1 : NC C1 n := by
    intro m m0 m1
    exact ncache_ext (fun c i hc hi => by rw [kv, if_neg (by omega)]) (ev _) hB ⟨m0, by omega⟩ (hNC m m0 (by omega))
  refine h_settle hcc ⟨hn.1, by rw [e2]; omega⟩ hN1 (fun C' hs hN => ?_)
  refine q C' (inv_settled (by rw [ko 3 (by omega)]; exact hb) hcc hs hN) (fun c hc => ?_) ?_ ?_ (fun c i hc => ?_)
  · rw [hs c (by omega) (by omega) (by omega), ko c (by omega)]
  · rw [hs 2 (by decide) (by decide) (by decide), e2]
  · rw [hs 12 (by decide) (by decide) (by decide), e12]
  · rw [hs c (by omega) (by omega) (by omega), kv]
end H
