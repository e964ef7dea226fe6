/-! the class within a check: definitions are filled -/
/-- C: the memory as the check began; M: now -/
def XC (C M : Mem) : Prop := (∀ c : Nat, c = 2 ∨ (7 ≤ c ∧ c ≤ 21) ∨ c = 26 → M c = C c) ∧ M 1 8 = C 1 8 ∧ M 3 12 = C 3 12 ∧ (∀ i, 0 ≤ i → i < C 1 8 → M 4 i = C 4 i ∧ M 5 i = C 5 i ∧ M 6 i = C 6 i) ∧ C 1 8 ≤ M 1 9 ∧ M 1 9 ≤ 370 ∧ TB M (M 1 9)
def grows (M M' : Mem) : Prop := (∀ c : Nat, c ≠ 1 → c ≠ 4 → c ≠ 5 → c ≠ 6 → M' c = M c) ∧ M' 1 8 = M 1 8 ∧ M 1 9 ≤ M' 1 9 ∧ ∀ i, 0 ≤ i → i < M 1 9 → M' 4 i = M 4 i ∧ M' 5 i = M 5 i ∧ M' 6 i = M 6 i
theorem grows.rf {M : Mem} : grows M M := ⟨fun _ _ _ _ _ => rfl, rfl, Int.le_refl _, fun _ _ _ => ⟨rfl, rfl, rfl⟩⟩
theorem grows.tr {M M1 M2 : Mem} (h : grows M M1) (h2 : grows M1 M2) : grows M M2 := by
  refine ⟨fun c a b d e => (h2.1 c a b d e).trans (h.1 c a b d e), h2.2.1.trans h.2.1, Int.le_trans h.2.2.1 h2.2.2.1, fun i i0 i1 => ?_⟩
  have q := h2.2.2.2 i i0 (Int.lt_of_lt_of_le i1 h.2.2.1)
  have p := h.2.2.2 i i0 i1
  exact ⟨q.1.trans p.1, q.2.1.trans p.2.1, q.2.2.trans p.2.2⟩
theorem grows_vC {M M' : Mem} (h : grows M M') (hT : TB M (M 1 9)) {x : Int} (hx : x < M 1 9) : vC M' x = vC M x := vC_ext hT h.2.2.2 hx
def cp : Nat → Int
  | 0 => 0
  | 1 => 0
  | k + 2 => 2 * cp (k + 1) + 1
theorem cp_nn : ∀ k : Nat, 0 ≤ cp k
  | 0 => Int.le_refl _
  | 1 => Int.le_refl _
  | k + 2 => by
    have := cp_nn (k + 1)
    rw [cp]
    omega
section H
variable {C M : Mem} {n x y a b f : Int} {Q : Int → Mem → Prop}
theorem XC_vC (hI : InvC C) (h : XC C M) (hx : x < C 1 8) : vC M x = vC C x := vC_ext hI.2.2.1 h.2.2.2.1 hx
theorem XC_grows {M' : Mem} (h : XC C M) (g : grows M M') (h3 : M' 1 9 ≤ 370) (hT : TB M' (M' 1 9)) : XC C M' := by
  obtain ⟨h1, h2, h2', h4, h5, h6, h7⟩ := h
  refine ⟨fun c hc => (g.1 c (by omega) (by omega) (by omega) (by omega)).trans (h1 c hc), g.2.1.trans h2, by rw [g.1 3 (by decide) (by decide) (by decide) (by decide)]; exact h2', fun i i0 i1 => ?_, Int.le_trans h5 g.2.2.1, h3, hT⟩
  have q := g.2.2.2 i i0 (by omega)
  have p := h4 i i0 i1
  exact ⟨q.1.trans p.1, q.2.1.trans p.2.1, q.2.2.trans p.2.2⟩
/-- a node among the held terms: found, or held anew -/
theorem h_fh (hI : InvC C) (h : XC C M) (h3 : M 1 9 < 370) (hv : (0 ≤ f ∧ f < M 2 7) ∧ (M 12 f < 1 → a = -9) ∧ (1 ≤ M 12 f → 0 ≤ a ∧ a < M 1 9) ∧ (M 12 f < 2 → b = -9) ∧ (2 ≤ M 12 f → 0 ≤ b ∧ b < M 1 9))
    (q : ∀ (M' : Mem) (r : Int), grows M M' → M' 1 9 ≤ M 1 9 + 1 → XC C M' → 0 ≤ r ∧ r < M' 1 9 → vC M' r = nd f.toNat (vC M a) (vC M b) → Q r M') : w_X2_find M f a b (fun r18 M17 => ((r18 = (-9) → (w_X2_hold M17 f a b (fun r22 M21 => Q r22 M21))) ∧ (¬ r18 = (-9) → Q r18 M17))) := by
  obtain ⟨h1, h2, h2', h4, h5, h6, h7⟩ := id h
  have t0 := hI.2.1.1
  have h12 : M 2 7 ≤ 12 := by rw [h1 2 (by omega)]; exact hI.1.2.1
  refine h_find (by omega) (by omega) (fun x x0 x1 e1 e2 e3 => ⟨fun z => by omega, fun _ => q M x grows.rf (by omega) h ⟨x0, x1⟩ ?_⟩) (fun hno => ⟨fun _ => ⟨fun _ => ?_, fun z => by omega⟩, fun z => absurd rfl z⟩)
  · rw [vC_eq h7 x0 x1, e1, e2, e3]
  · refine ⟨by omega, by omega, by omega, ?_, ?_⟩
    · show rg (M 1 9 + 1)
      unfold rg
      omega
    · show Q (M 1 9) (up (up (up (up M 4 (M 1 9) f) 5 (M 1 9) a) 6 (M 1 9) b) 1 9 (M 1 9 + 1))
      generalize hn : M 1 9 = n at *
      generalize hM2 : up (up (up (up M 4 n f) 5 n a) 6 n b) 1 9 (n + 1) = M2
      have k19 : M2 1 9 = n + 1 := by rw [← hM2]; simp [up]
      have k18 : M2 1 8 = M 1 8 := by rw [← hM2]; simp [up]
      have kc : ∀ c : Nat, c ≠ 1 → c ≠ 4 → c ≠ 5 → c ≠ 6 → M2 c = M c := fun c c1 c4 c5 c6 => by rw [← hM2, up_off c1, up_off c6, up_off c5, up_off c4]
      have k4 : ∀ i, M2 4 i = if i = n then f else M 4 i := fun i => by rw [← hM2]; simp [up]
      have k5 : ∀ i, M2 5 i = if i = n then a else M 5 i := fun i => by rw [← hM2]; simp [up]
      have k6 : ∀ i, M2 6 i = if i = n then b else M 6 i := fun i => by rw [← hM2]; simp [up]
      have g : grows M M2 := by
        refine ⟨kc, k18, by omega, fun i i0 i1 => ?_⟩
        rw [k4, k5, k6, if_neg (by omega), if_neg (by omega), if_neg (by omega)]
        exact ⟨rfl, rfl, rfl⟩
      have hT2 : TB M2 (n + 1) := by
        refine ⟨fun x x0 x1 => ?_, fun x y x0 x1 y0 y1 e1 e2 e3 => ?_⟩
        · unfold tnode
          rw [k4, k5, k6, kc 2 (by decide) (by decide) (by decide) (by decide), kc 12 (by decide) (by decide) (by decide) (by decide)]
          by_cases e : x = n
          · rw [if_pos e, if_pos e, if_pos e, e]
            exact Or.inr hv
          · rw [if_neg e, if_neg e, if_neg e]
            exact h7.1 x x0 (by omega)
        · rw [k4, k4] at e1
          rw [k5, k5] at e2
          rw [k6, k6] at e3
          by_cases ex : x = n
          · by_cases ey : y = n
            · omega
            · rw [if_pos ex, if_neg ey] at e1 e2 e3
              exact absurd ⟨e1.symm, e2.symm, e3.symm⟩ (hno y y0 (by omega))
          · by_cases ey : y = n
            · rw [if_neg ex, if_pos ey] at e1 e2 e3
              exact absurd ⟨e1, e2, e3⟩ (hno x x0 (by omega))
            · rw [if_neg ex, if_neg ey] at e1 e2 e3
              exact h7.2 x y x0 (by omega) y0 (by omega) e1 e2 e3
      have ha : a < n := by
        by_cases c : M 12 f < 1
        · have := hv.2.1 c; omega
        · exact (hv.2.2.1 (by omega)).2
      have hb : b < n := by
        by_cases c : M 12 f < 2
        · have := hv.2.2.2.1 c; omega
        · exact (hv.2.2.2.2 (by omega)).2
      refine q M2 n g (by omega) (XC_grows h g (by omega) (by rw [k19]; exact hT2)) (by omega) ?_
      rw [vC_eq hT2 (by omega) (by omega), k4, k5, k6, if_pos rfl, if_pos rfl, if_pos rfl, grows_vC g (by rw [hn]; exact h7) (by omega), grows_vC g (by rw [hn]; exact h7) (by omega)]
/-- filled goes right at terms of depth k -/
def FIL (C : Mem) (a b : Int) (k : Nat) : Prop := ∀ (m : Nat), k < m → ∀ (M : Mem) (x lev : Int) (Q : Int → Mem → Prop), XC C M → made C x → dep (vC C x) ≤ k → 0 ≤ lev → dep (vC C x) + lev ≤ 5 → M 1 9 + cp k ≤ 370 → (0 < occ 100 (vC C x) → 0 ≤ a ∧ a < M 1 9) → (0 < occ 101 (vC C x) → 0 ≤ b ∧ b < M 1 9) →
    (∀ (M' : Mem) (r : Int), grows M M' → M' 1 9 ≤ M 1 9 + cp k → XC C M' → 0 ≤ r ∧ r < M' 1 9 → vC M' r = sub (vC M a) (vC M b) (vC C x) → Q r M') → w_X2_filled m M x a b lev Q
/-- a part that isn't there stands for nothing, and trees of numbers beyond are the same -/
theorem sub_keep {M M' : Mem} (hT : TB M (M 1 9)) (g : grows M M') (t : Tr) (hpa : 0 < occ 100 t → 0 ≤ a ∧ a < M 1 9) (hpb : 0 < occ 101 t → 0 ≤ b ∧ b < M 1 9) : sub (vC M' a) (vC M' b) t = sub (vC M a) (vC M b) t := by
  have key : ∀ s : Tr, (0 < occ 100 s → vC M' a = vC M a) → (0 < occ 101 s → vC M' b = vC M b) → sub (vC M' a) (vC M' b) s = sub (vC M a) (vC M b) s := by
    intro s
    refine tr_ind (P := fun s => (0 < occ 100 s → vC M' a = vC M a) → (0 < occ 101 s → vC M' b = vC M b) → sub (vC M' a) (vC M' b) s = sub (vC M a) (vC M b) s) ?_ ?_ s
    · intro s hn _ _
      match s, hn with
      | .op (.var f) (.op a b), hn => exact absurd rfl (hn f a b)
      | .var _, _ => rfl
      | .op (.op _ _) _, _ => rfl
      | .op (.var _) (.var _), _ => rfl
    · intro f u v hu hv ha hb
      have nu := occ_nn 100 u
      have nv := occ_nn 100 v
      have nu1 := occ_nn 101 u
      have nv1 := occ_nn 101 v
      rw [occ_nd] at ha hb
      rw [sub_nd, sub_nd]
      by_cases e1 : f = 100
      · rw [if_pos e1, if_pos e1]
        exact ha (by rw [if_pos e1]; omega)
      · by_cases e2 : f = 101
        · rw [if_neg e1, if_neg e1, if_pos e2, if_pos e2]
          exact hb (by rw [if_pos e2]; omega)
        · rw [if_neg e1] at ha
          rw [if_neg e2] at hb
          rw [if_neg e1, if_neg e1, if_neg e2, if_neg e2, hu (fun z => ha (by omega)) (fun z => hb (by omega)), hv (fun z => ha (by omega)) (fun z => hb (by omega))]
  exact key t (fun z => grows_vC g hT (hpa z).2) (fun z => grows_vC g hT (hpb z).2)
theorem h_f37 (hI : InvC C) (k m : Nat) (hm : k < m) (ih : FIL C a b k) (h : XC C M) (hx : made C x) (hd : dep (vC C x) ≤ ((k + 1 : Nat) : Int)) (hl0 : 0 ≤ n) (hl : dep (vC C x) + n ≤ 5) (hcap : M 1 9 + cp (k + 1) ≤ 370) (hpa : 0 < occ 100 (vC C x) → 0 ≤ a ∧ a < M 1 9) (hpb : 0 < occ 101 (vC C x) → 0 ≤ b ∧ b < M 1 9)
    (q : ∀ (M' : Mem) (r : Int), grows M M' → M' 1 9 ≤ M 1 9 + cp (k + 1) → XC C M' → 0 ≤ r ∧ r < M' 1 9 → vC M' r = sub (vC M a) (vC M b) (vC C x) → Q r M') (hnc : ¬ (occ 100 (vC C x) = 0 ∧ occ 101 (vC C x) = 0)) : w_X2_filled_J37 (w_X2_filled m) Q M x a b n := by
  obtain ⟨hB, ⟨t0, t9, th⟩, hT, hTC, hNC, hb⟩ := id hI
  have h12 := hB.2.1
  obtain ⟨h1, h2, h2', h4, h5, h6, h7⟩ := id h
  obtain ⟨f4, f5, f6⟩ := h4 x hx.1 hx.2
  have hx0 := hx.1
  have hx1 := hx.2
  have hf := hT.fr hx.1 hx.2 h12
  have ev := vC_eq hT hx.1 hx.2
  have cpn := cp_nn (k + 1)
  have n1 := occ_nn 100 (vC C x)
  have n2 := occ_nn 101 (vC C x)
  unfold w_X2_filled_J37
  rw [f4, f5]
  refine ⟨by omega, fun z => ⟨fun z1 => ?_, fun z1 => ?_⟩, fun z => ?_⟩
  · -- a name in front
    have hnm : 0 ≤ C 4 x ∧ C 4 x < C 2 7 := by omega
    have har := (hB.2.2 _ hnm.1 hnm.2).1
    rcases hT.1 x hx0 hx1 with g | ⟨p1, p2, p3, p4, p5⟩
    · omega
    · have h0 := occ_nn 100 (vC C (C 5 x))
      have h1' := occ_nn 101 (vC C (C 5 x))
      have h0b := occ_nn 100 (vC C (C 6 x))
      have h1b := occ_nn 101 (vC C (C 6 x))
      have na := dep_nn (vC C (C 5 x))
      have nb := dep_nn (vC C (C 6 x))
      have oc : ∀ p : Nat, 100 ≤ p → occ p (vC C x) = occ p (vC C (C 5 x)) + occ p (vC C (C 6 x)) := fun p hp => by
        rw [ev, occ_nd, if_neg (by omega)]
        omega
      have o0 := oc 100 (by decide)
      have o1 := oc 101 (by decide)
      have dl : 1 + dep (vC C (C 5 x)) ≤ dep (vC C x) ∧ 1 + dep (vC C (C 6 x)) ≤ dep (vC C x) := by
        rw [ev, dep_nd]
        split <;> omega
      have ar1 : 1 ≤ C 12 (C 4 x) := by
        by_cases c : C 12 (C 4 x) < 1
        · rw [p2 c, p4 (by omega), vC_neg (by decide : (-9 : Int) < 0), occ_nl] at o0 o1
          omega
        · omega
      have q5 := p3 ar1
      have d5 : 1 ≤ dep (vC C (C 5 x)) := by
        rw [vC_eq hT q5.1 (by omega), dep_nd]
        have := dep_nn (vC C (C 5 (C 5 x)))
        have := dep_nn (vC C (C 6 (C 5 x)))
        split <;> omega
      obtain ⟨k', rfl⟩ : ∃ k' : Nat, k = k' + 1 := ⟨k - 1, by omega⟩
      have ecp : cp (k' + 1 + 1) = 2 * cp (k' + 1) + 1 := rfl
      have cpk := cp_nn (k' + 1)
      have e4 : (((C 4 x).toNat : Nat) : Int) = C 4 x := Int.toNat_of_nonneg hnm.1
      refine ⟨by omega, by unfold rg; omega, ih m hm M (C 5 x) (n + 1) _ h ⟨q5.1, by omega⟩ (by omega) (by omega) (by omega) (by omega) (fun z => hpa (by omega)) (fun z => hpb (by omega)) (fun M1 r1 g1 b1 x1 hr1 v1 => ⟨by omega, by unfold rg; omega, ?_⟩)⟩
      have e6 : M1 6 x = C 6 x := (x1.2.2.2.1 x hx0 hx1).2.2
      rw [e6]
      -- the second part
      have fin : ∀ (M2 : Mem) (r2 : Int), grows M1 M2 → M2 1 9 ≤ M1 1 9 + cp (k' + 1) → XC C M2 → (2 ≤ C 12 (C 4 x) → 0 ≤ r2 ∧ r2 < M2 1 9) → (C 12 (C 4 x) < 2 → r2 = -9) → vC M2 r2 = sub (vC M a) (vC M b) (vC C (C 6 x)) → w_X2_find M2 (C 4 x) r1 r2 (fun r18 M17 => ((r18 = (-9) → (w_X2_hold M17 (C 4 x) r1 r2 (fun r22 M21 => Q r22 M21))) ∧ (¬ r18 = (-9) → Q r18 M17))) := fun M2 r2 g2 b2 x2 hr2 hr2' v2 => by
        have e2 : M2 2 = C 2 := x2.1 2 (by omega)
        have e12 : M2 12 = C 12 := x2.1 12 (by omega)
        have l2 := g2.2.2.1
        refine h_fh hI x2 (by omega) ?_ (fun M3 r3 g3 b3 x3 hr3 v3 => q M3 r3 (g1.tr (g2.tr g3)) (by omega) x3 hr3 ?_)
        · rw [e2, e12]
          exact ⟨hnm, fun z => by omega, fun _ => ⟨hr1.1, by omega⟩, hr2', hr2⟩
        · rw [v3, grows_vC g2 x1.2.2.2.2.2.2 hr1.2, v1, v2, ev, sub_nd, if_neg (by omega), if_neg (by omega)]
      by_cases c : C 12 (C 4 x) < 2
      · obtain ⟨m', rfl⟩ : ∃ m' : Nat, m = m' + 1 := ⟨m - 1, by omega⟩
        rw [p4 c, w_X2_filled]
        refine h_made0 (by omega) ⟨fun _ => fin M1 (-9) grows.rf (by omega) x1 (fun z => by omega) (fun _ => rfl) ?_, fun z => absurd rfl z⟩
        rw [p4 c, vC_neg (by decide : (-9 : Int) < 0), vC_neg (by decide : (-9 : Int) < 0), sub_nl]
      · have q6 := p5 (by omega)
        have l1 := g1.2.2.1
        refine ih m hm M1 (C 6 x) (n + 1) _ x1 ⟨q6.1, by omega⟩ (by omega) (by omega) (by omega) (by omega) (fun z => ?_) (fun z => ?_) (fun M2 r2 g2 b2 x2 hr2 v2 => fin M2 r2 g2 b2 x2 (fun _ => hr2) (fun z => by omega) ?_)
        · have := hpa (by omega)
          omega
        · have := hpb (by omega)
          omega
        · rw [v2]
          exact sub_keep h7 g1 _ (fun z => hpa (by omega)) (fun z => hpb (by omega))
  · have e : C 4 x = 101 := by omega
    have p : 0 < occ 101 (vC C x) := by
      rw [ev, occ_nd, e]
      have := occ_nn 101 (vC C (C 5 x))
      have := occ_nn 101 (vC C (C 6 x))
      simp
      omega
    refine q M b grows.rf (by omega) h (hpb p) ?_
    rw [ev, sub_nd, e]
    simp
  · have p : 0 < occ 100 (vC C x) := by
      rw [ev, occ_nd, z]
      have := occ_nn 100 (vC C (C 5 x))
      have := occ_nn 100 (vC C (C 6 x))
      simp
      omega
    refine q M a grows.rf (by omega) h (hpa p) ?_
    rw [ev, sub_nd, z]
    simp
theorem h_filled (hI : InvC C) : ∀ k : Nat, FIL C a b k := by
  obtain ⟨hB, ⟨t0, t9, th⟩, hT, hTC, hNC, hb⟩ := id hI
  have h12 := hB.2.1
  intro k
  induction k with
  | zero =>
    intro m hm M x lev Q h hx hd
    have := dep_nn (vC C (C 5 x))
    have := dep_nn (vC C (C 6 x))
    rw [vC_eq hT hx.1 hx.2, dep_nd] at hd
    split at hd <;> omega
  | succ k ih =>
    intro m hm M x lev Q h hx hd hl0 hl hcap hpa hpb q
    obtain ⟨m, rfl⟩ : ∃ m' : Nat, m = m' + 1 := ⟨m - 1, by omega⟩
    obtain ⟨h1, h2, h2', h4, h5, h6, h7⟩ := id h
    have hx0 := hx.1
    have hx1 := hx.2
    have e10 : M 10 = C 10 := h1 10 (by omega)
    have e11 : M 11 = C 11 := h1 11 (by omega)
    obtain ⟨c1, c2, c3, c4, c5, c6⟩ := hTC x hx.1 hx.2
    have hd1 : 1 ≤ dep (vC C x) := by
      rw [vC_eq hT hx.1 hx.2, dep_nd]
      have := dep_nn (vC C (C 5 x))
      have := dep_nn (vC C (C 6 x))
      split <;> omega
    rw [w_X2_filled]
    refine h_made1 (by rw [h2]; exact hx) ⟨fun e => absurd e (by decide), fun _ => ⟨fun _ => ⟨by omega, fun z0 => ?_, fun z0 => ⟨by omega, fun z1 => ?_, fun z1 => ?_⟩⟩, fun z => by omega⟩⟩
    · rw [e10, c5] at z0
      exact h_f37 hI k m (by omega) ih h hx hd hl0 hl hcap hpa hpb q (fun z => z0 z.1)
    · rw [e11, c6] at z1
      exact h_f37 hI k m (by omega) ih h hx hd hl0 hl hcap hpa hpb q (fun z => z1 z.2)
    · rw [e10, c5] at z0
      rw [e11, c6] at z1
      refine q M x grows.rf (by have := cp_nn (k + 1); omega) h (by omega) ?_
      rw [XC_vC hI h hx1, sub_closed _ _ _ z0 z1]
end H
