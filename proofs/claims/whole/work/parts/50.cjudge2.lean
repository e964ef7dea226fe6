/-! the class judges a pair: its cases -/
section H
variable {C : Mem} {x y : Tr} {σ σ1 σ2 σ' : SG} {prog : Tr → Tr → Prop} {r v w : Int} {t t1 t2 : Nat} {f g : Nat} {p1 p2 q1 q2 : Tr}
/-- unfolding would be too much, or what comes is SPENT -/
theorem lp_unfoldS (hI : InvC C) {Q : Int → Mem → Prop} {M : Mem} {d : Nat} {s : Int} {n : Nat} {ax ay more : Int} {x' y' : Tr} (ham : (ax = 1 ∧ ay = 1 ∧ more = 2) ∨ (ax = 1 ∧ ay = 0 ∧ more = 1) ∨ (ax = 0 ∧ ay = 1 ∧ more = 1))
    (hx1 : ax = 1 → ∃ f p q, x = nd f p q ∧ foldN C f ∧ x' = sub p q (dfn C f)) (hx0 : ax = 0 → x' = x) (hy1 : ay = 1 → ∃ f p q, y = nd f p q ∧ foldN C f ∧ y' = sub p q (dfn C f)) (hy0 : ay = 0 → y' = y)
    (h : BT C x y σ prog M d s) (hs : s + 1 ≤ 4 * σ.2.2.1) (hc : σ.2.1 + more ≤ 40 → CS C x' y' (σ.1, σ.2.1 + more, σ.2.2.1, σ.2.2.2.1, σ.2.2.2.2) (PR prog x y) t1)
    (k : ∀ M2 n2 s2, XC C M2 → w_X0_run_L14 Q (n2 + 1) M2 (-6) s2) : w_X0_unfold M ax ay (fun r M1 => rg (s + 1) ∧ w_X0_run_L14 Q (n + 1 + t1) M1 r (s + 1)) := by
  have hd := BT_d h
  have hr := rg_s h hs
  obtain ⟨g1, g2, g3, g4, g5, g6, g7, g8, g9⟩ := id h
  have dx : dep x' ≤ dep x + 3 := by
    rcases ham with e | e | e
    · obtain ⟨f, p, q, e1, e2, e3⟩ := hx1 e.1
      rw [e3, e1]
      exact dep_unf hI e2
    · obtain ⟨f, p, q, e1, e2, e3⟩ := hx1 e.1
      rw [e3, e1]
      exact dep_unf hI e2
    · rw [hx0 e.1]
      omega
  have dy : dep y' ≤ dep y + 3 := by
    rcases ham with e | e | e
    · obtain ⟨f, p, q, e1, e2, e3⟩ := hy1 e.2.1
      rw [e3, e1]
      exact dep_unf hI e2
    · rw [hy0 e.2.1]
      omega
    · obtain ⟨f, p, q, e1, e2, e3⟩ := hy1 e.2.1
      rw [e3, e1]
      exact dep_unf hI e2
  refine g_unfold hI ham g1 g2 hd g3 g4 (fun z => by rw [g5]; exact hx1 z) (fun z => by rw [g5]; exact hx0 z) (fun z => by rw [g6]; exact hy1 z) (fun z => by rw [g6]; exact hy0 z) (fun z => ⟨hr, ?_⟩) (fun hle M2 a' b' s2 o2 r23 r24 r25 f2 e2 ha' hb' va vb => ?_)
  · rw [show n + 1 + t1 = (n + t1) + 1 by omega]
    exact k M (n + t1) (s + 1) g1.1
  · refine hc hle Q _ M2 (d + 1) a' b' (s + 1) n s2 (by rw [o2]; omega) ha' hb' va vb ?_ ?_ (by omega) (by show s + 1 ≤ 4 * σ.2.2.1; omega) (fun r2 M3 hh => ⟨hr, hh⟩) k
    · show ((d + 1 : Nat) : Int) + dep x' ≤ 4 + 4 * (σ.2.1 + more)
      omega
    · show ((d + 1 : Nat) : Int) + dep y' ≤ 4 + 4 * (σ.2.1 + more)
      omega
/-- the fronts of the last pair -/
theorem BT_fr (hI : InvC C) {M : Mem} {d : Nat} {s : Int} (ex : x = nd f p1 p2) (ey : y = nd g q1 q2) (hf : f < 100) (hg : g < 100) (h : BT C x y σ prog M d s) : M 4 (M 23 d) = f ∧ M 4 (M 24 d) = g ∧ (f : Int) < C 2 7 ∧ (g : Int) < C 2 7 := by
  obtain ⟨g1, g2, g3, g4, g5, g6, g7, g8, g9⟩ := h
  have a1 := XC_node hI g1.1 g3 (by rw [g5]; exact ex) hf
  have a2 := XC_node hI g1.1 g4 (by rw [g6]; exact ey) hg
  exact ⟨a1.1, a2.1, a1.2.2.2.1, a2.2.2.2.1⟩
theorem bj_clash (hI : InvC C) (ex : x = nd f p1 p2) (ey : y = nd g q1 q2) (hf : f < 100) (hg : g < 100) (hne : f ≠ g) (hm : σ.1 x y = 0) (hhx : C 15 f = 0) (hhy : C 15 g = 0) : BJ C x y σ prog 0 (mst σ.1 x y 1, σ.2.1, σ.2.2.1, (f : Int), (g : Int)) 1 := by
  intro Q M d s n h hs k
  have hd := BT_d h
  obtain ⟨e1, e2, e3, e4⟩ := BT_fr hI ex ey hf hg h
  obtain ⟨g1, g2, g3, g4, g5, g6, g7, g8, g9⟩ := id h
  have hX := g1.1
  have h370 := hX.2.2.2.2.2.1
  have h12 : M 2 7 ≤ 12 := by rw [hX.1 2 (by omega)]; exact hI.1.2.1
  have n27 : M 2 7 = C 2 7 := by rw [hX.1 2 (by omega)]
  have e15 : M 15 = C 15 := hX.1 15 (by omega)
  refine lp_begin h (by omega) (l_X g2 hd (h_front h370 g3 (l_Y g2 hd (h_front h370 g4 ?_))))
  rw [e1, e2]
  refine ⟨fun _ => h_hgt h12 (by omega) (h_hgt h12 (by omega) ?_), fun z => by omega⟩
  rw [e15, hhx, hhy]
  refine ⟨fun z => absurd z (by decide), fun _ => ⟨fun _ => ?_, fun z => absurd (Int.le_refl 0) z⟩⟩
  -- the clash is kept
  generalize hM1 : up (up M 3 9 (f : Int)) 3 10 (g : Int) = M1
  have ko : ∀ c : Nat, c ≠ 3 → M1 c = M c := fun c c3 => by rw [← hM1, up_off c3, up_off c3]
  have k3 : ∀ i, i ≠ 9 → i ≠ 10 → M1 3 i = M 3 i := fun i i9 i10 => by rw [← hM1]; simp [up, i9, i10]
  have k39 : M1 3 9 = f := by rw [← hM1]; simp [up]
  have k310 : M1 3 10 = g := by rw [← hM1]; simp [up]
  have ev : ∀ z, vC M1 z = vC M z := fun z => by
    unfold vC
    rw [ko 4 (by decide), ko 5 (by decide), ko 6 (by decide)]
  have bt : BT C x y (σ.1, σ.2.1, σ.2.2.1, (f : Int), (g : Int)) prog M1 d s := by
    obtain ⟨x0, b1, b2, ⟨b3, b3', b3'', b3'''⟩, b4, b5, b6, L, l1, l2, l3⟩ := g1
    refine ⟨⟨?_, by rw [ko 1 (by decide)]; exact b1, b2, ⟨by rw [k3 7 (by decide) (by decide)]; exact b3, by rw [k3 8 (by decide) (by decide)]; exact b3', k39, k310⟩, ?_, ?_, ?_, L, l1, l2, ?_⟩, by rw [k3 6 (by decide) (by decide)]; exact g2, by rw [ko 23 (by decide), ko 1 (by decide)]; exact g3, by rw [ko 24 (by decide), ko 1 (by decide)]; exact g4, by rw [ko 23 (by decide), ev]; exact g5, by rw [ko 24 (by decide), ev]; exact g6, g7, g8, g9⟩
    · obtain ⟨y1, y2, y3, y4, y5, y6, y7⟩ := x0
      refine ⟨fun c hc => by rw [ko c (by omega)]; exact y1 c hc, by rw [ko 1 (by decide)]; exact y2, by rw [k3 12 (by decide) (by decide)]; exact y3, by rw [ko 4 (by decide), ko 5 (by decide), ko 6 (by decide)]; exact y4, by rw [ko 1 (by decide)]; exact y5, by rw [ko 1 (by decide)]; exact y6, ?_⟩
      unfold TB tnode
      rw [ko 1 (by decide), ko 2 (by decide), ko 4 (by decide), ko 5 (by decide), ko 6 (by decide), ko 12 (by decide)]
      exact y7
    · intro a b
      rw [ko 1 (by decide), jv_cell (ko 22 (by decide)), ev, ev]
      exact b4 a b
    · intro a b
      rw [ko 1 (by decide), jv_cell (ko 22 (by decide))]
      exact b5 a b
    · intro p q hpq
      rw [ko 1 (by decide)]
      obtain ⟨w, a, b, ha, hb, ea, eb⟩ := b6 p q hpq
      exact ⟨w, a, b, ha, hb, by rw [ev]; exact ea, by rw [ev]; exact eb⟩
    · intro i hi
      rw [ko 1 (by decide)]
      obtain ⟨a, b, ha, hb, e, o⟩ := l3 i hi
      exact ⟨a, b, ha, hb, e, by rw [ev, ev]; exact o⟩
  refine lp_close hI bt (by show s + 1 ≤ 4 * σ.2.2.1; omega) hm (Or.inl rfl) (fun M2 s2 o2 f2 e2 => ?_)
  refine k M2 s2 o2 (fun i i0 i1 => ?_) ⟨?_, fun i i0 i1 => ?_⟩
  · have := f2 i i0 i1
    rw [ko 23 (by decide), ko 24 (by decide), ko 25 (by decide)] at this
    exact this
  · have := e2.1
    rw [ko 1 (by decide)] at this
    exact this
  · have := e2.2 i i0 (by rw [ko 1 (by decide)]; exact i1)
    rw [ko 4 (by decide), ko 5 (by decide), ko 6 (by decide)] at this
    exact this
/-- two names, one folded at least: by their heights -/
def hgtm (hx hy ax ay more : Int) : Prop := (hx = hy ∧ ax = 1 ∧ ay = 1 ∧ more = 2) ∨ (hy < hx ∧ ax = 1 ∧ ay = 0 ∧ more = 1) ∨ (hx < hy ∧ ax = 0 ∧ ay = 1 ∧ more = 1)
theorem lp_names (hI : InvC C) {K : Int → Mem → Prop} {M : Mem} {d : Nat} {s : Int} {ax ay more : Int} (ex : x = nd f p1 p2) (ey : y = nd g q1 q2) (hf : f < 100) (hg : g < 100) (hne : f ≠ g) (hh : 0 < C 15 f ∨ 0 < C 15 g) (hmo : hgtm (C 15 f) (C 15 g) ax ay more) (h : BT C x y σ prog M d s) (k : w_X0_unfold M ax ay K) : w_X0_begin M K := by
  have hd := BT_d h
  obtain ⟨e1, e2, e3, e4⟩ := BT_fr hI ex ey hf hg h
  obtain ⟨g1, g2, g3, g4, g5, g6, g7, g8, g9⟩ := id h
  have hX := g1.1
  have h370 := hX.2.2.2.2.2.1
  have h12 : M 2 7 ≤ 12 := by rw [hX.1 2 (by omega)]; exact hI.1.2.1
  have n27 : M 2 7 = C 2 7 := by rw [hX.1 2 (by omega)]
  have e15 : M 15 = C 15 := hX.1 15 (by omega)
  have j63 : w_X0_begin_J63 K M (C 15 f) (C 15 g) := by
    rcases hmo with ⟨m1, m2, m3, m4⟩ | ⟨m1, m2, m3, m4⟩ | ⟨m1, m2, m3, m4⟩
    · subst m2
      subst m3
      exact ⟨fun z => by omega, fun _ => ⟨fun z => by omega, fun _ => k⟩⟩
    · subst m2
      subst m3
      exact ⟨fun z => by omega, fun _ => ⟨fun _ => k, fun z => by omega⟩⟩
    · subst m2
      subst m3
      exact ⟨fun _ => ⟨fun z => by omega, fun _ => k⟩, fun z => by omega⟩
  refine l_X g2 hd (h_front h370 g3 (l_Y g2 hd (h_front h370 g4 ?_)))
  rw [e1, e2]
  refine ⟨fun _ => h_hgt h12 (by omega) (h_hgt h12 (by omega) ?_), fun z => by omega⟩
  rw [e15]
  exact ⟨fun _ => j63, fun z => ⟨fun z2 => by omega, fun _ => j63⟩⟩
theorem hgtm_am {hx hy ax ay more : Int} (h : hgtm hx hy ax ay more) : (ax = 1 ∧ ay = 1 ∧ more = 2) ∨ (ax = 1 ∧ ay = 0 ∧ more = 1) ∨ (ax = 0 ∧ ay = 1 ∧ more = 1) := by
  unfold hgtm at h
  omega
theorem bj_names (hI : InvC C) {ax ay more : Int} {x' y' : Tr} (ex : x = nd f p1 p2) (ey : y = nd g q1 q2) (hf : f < 100) (hg : g < 100) (hne : f ≠ g) (hh : 0 < C 15 f ∨ 0 < C 15 g) (hmo : hgtm (C 15 f) (C 15 g) ax ay more)
    (hx1 : ax = 1 → ∃ f p q, x = nd f p q ∧ foldN C f ∧ x' = sub p q (dfn C f)) (hx0 : ax = 0 → x' = x) (hy1 : ay = 1 → ∃ f p q, y = nd f p q ∧ foldN C f ∧ y' = sub p q (dfn C f)) (hy0 : ay = 0 → y' = y)
    (hle : σ.2.1 + more ≤ 40) (hc : CJ C x' y' (σ.1, σ.2.1 + more, σ.2.2.1, σ.2.2.2.1, σ.2.2.2.2) (PR prog x y) v σ1 t1) (hu : σ.2.1 + more ≤ σ1.2.1) (hj : (t1 : Int) ≤ 4 * (σ1.2.2.1 - σ.2.2.1)) (hm : σ1.1 x y = 0) (hv : v = 0 ∨ v = 1) : BJ C x y σ prog v (mst σ1.1 x y (v + 1), σ1.2.1, σ1.2.2.1, σ1.2.2.2.1, σ1.2.2.2.2) (t1 + 2) := by
  intro Q M d s n h hs k
  rw [show n + (t1 + 2) = (n + 1 + t1) + 1 by omega]
  refine lp_begin h (by omega) (lp_names hI ex ey hf hg hne hh hmo h (lp_unfold hI (hgtm_am hmo) hx1 hx0 hy1 hy0 h (by omega) hle hc hu hj hm hv (by omega) (fun M2 s2 o2 f2 e2 => ?_)))
  have := k M2 s2 o2 f2 e2
  rw [show s + ((t1 + 2 : Nat) : Int) = s + 1 + t1 + 1 by omega] at this
  exact this
theorem bs_names (hI : InvC C) {ax ay more : Int} {x' y' : Tr} (ex : x = nd f p1 p2) (ey : y = nd g q1 q2) (hf : f < 100) (hg : g < 100) (hne : f ≠ g) (hh : 0 < C 15 f ∨ 0 < C 15 g) (hmo : hgtm (C 15 f) (C 15 g) ax ay more)
    (hx1 : ax = 1 → ∃ f p q, x = nd f p q ∧ foldN C f ∧ x' = sub p q (dfn C f)) (hx0 : ax = 0 → x' = x) (hy1 : ay = 1 → ∃ f p q, y = nd f p q ∧ foldN C f ∧ y' = sub p q (dfn C f)) (hy0 : ay = 0 → y' = y)
    (hc : σ.2.1 + more ≤ 40 → CS C x' y' (σ.1, σ.2.1 + more, σ.2.2.1, σ.2.2.2.1, σ.2.2.2.2) (PR prog x y) t1) : BS C x y σ prog (t1 + 1) := by
  intro Q M d s n h hs k
  rw [show n + 1 + (t1 + 1) = (n + 1 + t1) + 1 by omega]
  exact lp_begin h (by omega) (lp_names hI ex ey hf hg hne hh hmo h (lp_unfoldS hI (hgtm_am hmo) hx1 hx0 hy1 hy0 h (by omega) hc k))
/-- the ends of a pair of one name -/
theorem lp_goon (hI : InvC C) {Q : Int → Mem → Prop} {M : Mem} {d : Nat} {s : Int} {n : Nat} (ex : x = nd f p1 p2) (ey : y = nd f q1 q2) (hf : f < 100) (h : BT C x y σ prog M d s) (hw : M 25 d = w) (hw2 : w = 0 ∨ w = 1) (hv : v = 0 ∨ v = 1) (hs : s + 1 ≤ 4 * σ.2.2.1)
    (k1 : v = 1 → C 12 f ≤ w + 1 → w_X0_close M 1 (fun r M1 => rg (s + 1) ∧ w_X0_run_L14 Q n M1 r (s + 1))) (k2 : v = 1 → w + 1 < C 12 f → w_X0_meetParts M (w + 1) (fun r M1 => rg (s + 1) ∧ w_X0_run_L14 Q n M1 r (s + 1)))
    (k3 : v = 0 → ¬ foldN C f → w_X0_close M 0 (fun r M1 => rg (s + 1) ∧ w_X0_run_L14 Q n M1 r (s + 1))) (k4 : v = 0 → foldN C f → w_X0_unfold M 1 1 (fun r M1 => rg (s + 1) ∧ w_X0_run_L14 Q n M1 r (s + 1))) : w_X0_run_L14 Q (n + 1) M v s := by
  have hd := BT_d h
  obtain ⟨e1, e2, e3, e4⟩ := BT_fr hI ex ey hf hf h
  obtain ⟨g1, g2, g3, g4, g5, g6, g7, g8, g9⟩ := id h
  have hX := g1.1
  have h370 := hX.2.2.2.2.2.1
  have h12 : M 2 7 ≤ 12 := by rw [hX.1 2 (by omega)]; exact hI.1.2.1
  have n27 : M 2 7 = C 2 7 := by rw [hX.1 2 (by omega)]
  have hfo : fold M f ↔ foldN C f := by
    unfold fold foldN
    rw [hX.1 13 (by omega), hX.1 14 (by omega)]
    exact ⟨fun z => ⟨hf, e3, z.1, z.2⟩, fun z => ⟨z.2.2.1, z.2.2.2⟩⟩
  refine lp_on h hv hs (l_W g2 hd ?_)
  rw [hw]
  refine ⟨fun _ => l_X g2 hd (h_front h370 g3 ?_), fun z => by omega⟩
  rw [e1]
  refine ⟨fun z => ⟨by unfold rg; omega, h_ar h12 (by omega) ?_⟩, fun z => h_fold h12 (by omega) (fun nf => ⟨fun _ => k3 z (fun c => nf (hfo.mpr c)), fun c => absurd rfl c⟩) (fun fo => ⟨fun c => absurd c (by decide), fun _ => k4 z (hfo.mp fo)⟩)⟩
  rw [hX.1 12 (by omega)]
  exact ⟨fun c => k1 (by omega) c, fun c => ⟨by unfold rg; omega, k2 (by omega) (by omega)⟩⟩
theorem fj_alike (hI : InvC C) (ex : x = nd f p1 p2) (ey : y = nd f q1 q2) (hf : f < 100) (hw2 : w = 0 ∨ w = 1) (har : C 12 f ≤ w + 1) (hm : σ.1 x y = 0) : FJ C x y σ prog 1 w 1 (mst σ.1 x y 2, σ.2.1, σ.2.2.1, σ.2.2.2.1, σ.2.2.2.2) 1 := by
  intro Q M d s n h hw hs k
  exact lp_goon hI ex ey hf h hw hw2 (Or.inr rfl) (by omega) (fun _ _ => lp_close hI h (by omega) hm (Or.inr rfl) k) (fun _ z => by omega) (fun z => absurd z (by decide)) (fun z => absurd z (by decide))
theorem fj_no (hI : InvC C) (ex : x = nd f p1 p2) (ey : y = nd f q1 q2) (hf : f < 100) (hw2 : w = 0 ∨ w = 1) (hnf : ¬ foldN C f) (hm : σ.1 x y = 0) : FJ C x y σ prog 0 w 0 (mst σ.1 x y 1, σ.2.1, σ.2.2.1, σ.2.2.2.1, σ.2.2.2.2) 1 := by
  intro Q M d s n h hw hs k
  exact lp_goon hI ex ey hf h hw hw2 (Or.inl rfl) (by omega) (fun z => absurd z (by decide)) (fun z => absurd z (by decide)) (fun _ _ => lp_close hI h (by omega) hm (Or.inl rfl) k) (fun _ z => absurd z hnf)
theorem fj_unf (hI : InvC C) (ex : x = nd f p1 p2) (ey : y = nd f q1 q2) (hw2 : w = 0 ∨ w = 1) (hfo : foldN C f) (hle : σ.2.1 + 2 ≤ 40) (hc : CJ C (sub p1 p2 (dfn C f)) (sub q1 q2 (dfn C f)) (σ.1, σ.2.1 + 2, σ.2.2.1, σ.2.2.2.1, σ.2.2.2.2) (PR prog x y) v σ1 t1) (hu : σ.2.1 + 2 ≤ σ1.2.1) (hj : (t1 : Int) ≤ 4 * (σ1.2.2.1 - σ.2.2.1)) (hm : σ1.1 x y = 0) (hv : v = 0 ∨ v = 1) : FJ C x y σ prog 0 w v (mst σ1.1 x y (v + 1), σ1.2.1, σ1.2.2.1, σ1.2.2.2.1, σ1.2.2.2.2) (t1 + 2) := by
  intro Q M d s n h hw hs k
  rw [show n + (t1 + 2) = (n + 1 + t1) + 1 by omega]
  refine lp_goon hI ex ey hfo.1 h hw hw2 (Or.inl rfl) (by omega) (fun z => absurd z (by decide)) (fun z => absurd z (by decide)) (fun _ z => absurd hfo z) (fun _ _ => lp_unfold hI (Or.inl ⟨rfl, rfl, rfl⟩) (fun _ => ⟨f, p1, p2, ex, hfo, rfl⟩) (fun z => absurd z (by decide)) (fun _ => ⟨f, q1, q2, ey, hfo, rfl⟩) (fun z => absurd z (by decide)) h (by omega) hle hc hu hj hm hv (by omega) (fun M2 s2 o2 f2 e2 => ?_))
  have := k M2 s2 o2 f2 e2
  rw [show s + ((t1 + 2 : Nat) : Int) = s + 1 + t1 + 1 by omega] at this
  exact this
theorem fs_unf (hI : InvC C) (ex : x = nd f p1 p2) (ey : y = nd f q1 q2) (hw2 : w = 0 ∨ w = 1) (hfo : foldN C f) (hc : σ.2.1 + 2 ≤ 40 → CS C (sub p1 p2 (dfn C f)) (sub q1 q2 (dfn C f)) (σ.1, σ.2.1 + 2, σ.2.2.1, σ.2.2.2.1, σ.2.2.2.2) (PR prog x y) t1) : FS C x y σ prog 0 w (t1 + 1) := by
  intro Q M d s n h hw hs k
  rw [show n + 1 + (t1 + 1) = (n + 1 + t1) + 1 by omega]
  exact lp_goon hI ex ey hfo.1 h hw hw2 (Or.inl rfl) (by omega) (fun z => absurd z (by decide)) (fun z => absurd z (by decide)) (fun _ z => absurd hfo z) (fun _ _ => lp_unfoldS hI (Or.inl ⟨rfl, rfl, rfl⟩) (fun _ => ⟨f, p1, p2, ex, hfo, rfl⟩) (fun z => absurd z (by decide)) (fun _ => ⟨f, q1, q2, ey, hfo, rfl⟩) (fun z => absurd z (by decide)) h (by omega) hc k)
end H
