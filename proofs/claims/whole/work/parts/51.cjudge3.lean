/-! the class judges a pair of one name: its parts -/
section H
variable {C : Mem} {x y : Tr} {σ σ1 σ2 σ' : SG} {prog : Tr → Tr → Prop} {r r1 r2 v w : Int} {t t1 t2 : Nat} {f g : Nat} {p1 p2 q1 q2 : Tr}
theorem part_ok (hI : InvC C) {M : Mem} {d : Nat} {s i : Int} (hi : i = 0 ∨ i = 1) (ex : x = nd f p1 p2) (ey : y = nd f q1 q2) (hf : f < 100) (har : i < C 12 f) (h : BT C x y σ prog M d s) : (0 ≤ (if i = 0 then M 5 (M 23 d) else M 6 (M 23 d)) ∧ (if i = 0 then M 5 (M 23 d) else M 6 (M 23 d)) < M 1 9) ∧ (0 ≤ (if i = 0 then M 5 (M 24 d) else M 6 (M 24 d)) ∧ (if i = 0 then M 5 (M 24 d) else M 6 (M 24 d)) < M 1 9) ∧ vC M (if i = 0 then M 5 (M 23 d) else M 6 (M 23 d)) = (if i = 0 then p1 else p2) ∧ vC M (if i = 0 then M 5 (M 24 d) else M 6 (M 24 d)) = (if i = 0 then q1 else q2) := by
  obtain ⟨g1, g2, g3, g4, g5, g6, g7, g8, g9⟩ := h
  have a1 := XC_node hI g1.1 g3 (by rw [g5]; exact ex) hf
  have a2 := XC_node hI g1.1 g4 (by rw [g6]; exact ey) hf
  rcases hi with e | e
  · rw [if_pos e, if_pos e, if_pos e, if_pos e]
    exact ⟨a1.2.2.2.2.2.1 (by omega), a2.2.2.2.2.2.1 (by omega), a1.2.1, a2.2.1⟩
  · rw [if_neg (by omega), if_neg (by omega), if_neg (by omega), if_neg (by omega)]
    exact ⟨a1.2.2.2.2.2.2.2 (by omega), a2.2.2.2.2.2.2.2 (by omega), a1.2.2.1, a2.2.2.1⟩
theorem part_dep {i : Int} (p q : Tr) (f : Nat) : dep (if i = 0 then p else q) + 1 ≤ dep (nd f p q) := by
  rw [dep_nd]
  have := dep_nn p
  have := dep_nn q
  split <;> split <;> omega
theorem lp_part (hI : InvC C) {Q : Int → Mem → Prop} {M : Mem} {d : Nat} {s i : Int} {n : Nat} (hi : i = 0 ∨ i = 1) (ex : x = nd f p1 p2) (ey : y = nd f q1 q2) (hf : f < 100) (har : i < C 12 f) (h : BT C x y σ prog M d s) (hs : s + 1 ≤ 4 * σ.2.2.1)
    (hc : CJ C (if i = 0 then p1 else p2) (if i = 0 then q1 else q2) σ (PR prog x y) r1 σ1 t1) (hu : σ.2.1 ≤ σ1.2.1) (k : ∀ M2, BT C x y σ1 prog M2 d (s + 1 + t1) → M2 25 d = i → fb d M M2 → ext M M2 → w_X0_run_L14 Q n M2 r1 (s + 1 + t1)) : w_X0_meetParts M i (fun r M1 => rg (s + 1) ∧ w_X0_run_L14 Q (n + t1) M1 r (s + 1)) := by
  have hd := BT_d h
  have hr := rg_s h hs
  obtain ⟨o1, o2, o3, o4⟩ := part_ok hI hi ex ey hf har h
  obtain ⟨g1, g2, g3, g4, g5, g6, g7, g8, g9⟩ := id h
  have dx := part_dep (i := i) p1 p2 f
  have dy := part_dep (i := i) q1 q2 f
  rw [← ex] at dx
  rw [← ey] at dy
  refine g_parts hI hi g1 g2 hd g3 g4 (fun M2 s2 w2 r23 r24 r25 f2 e2 ev e9 => ?_)
  have bt2 : BT C x y σ prog M2 d s := ⟨s2, w2, by rw [r23, e9]; exact g3, by rw [r24, e9]; exact g4, by rw [r23, ev]; exact g5, by rw [r24, ev]; exact g6, g7, g8, g9⟩
  refine hc Q _ M2 (d + 1) _ _ (s + 1) n s2 (by rw [w2]; omega) (by rw [e9]; exact o1) (by rw [e9]; exact o2) (by rw [ev]; exact o3) (by rw [ev]; exact o4) (by omega) (by omega) (by omega) (by omega) (fun r2 M3 hh => ⟨hr, hh⟩) (fun M3 s3 o3 f3 e3 => ?_)
  have q := f3 d (by omega) (by omega)
  exact k M3 (BT_after bt2 s3 o3 f3 e3 hu (by omega)) (by rw [q.2.2]; exact r25) (f2.tr (f3.le (by omega))) (e2.tr e3)
theorem lp_partS (hI : InvC C) {Q : Int → Mem → Prop} {M : Mem} {d : Nat} {s i : Int} {n : Nat} (hi : i = 0 ∨ i = 1) (ex : x = nd f p1 p2) (ey : y = nd f q1 q2) (hf : f < 100) (har : i < C 12 f) (h : BT C x y σ prog M d s) (hs : s + 1 ≤ 4 * σ.2.2.1)
    (hc : CS C (if i = 0 then p1 else p2) (if i = 0 then q1 else q2) σ (PR prog x y) t1) (k : ∀ M2 n2 s2, XC C M2 → w_X0_run_L14 Q (n2 + 1) M2 (-6) s2) : w_X0_meetParts M i (fun r M1 => rg (s + 1) ∧ w_X0_run_L14 Q (n + 1 + t1) M1 r (s + 1)) := by
  have hd := BT_d h
  have hr := rg_s h hs
  obtain ⟨o1, o2, o3, o4⟩ := part_ok hI hi ex ey hf har h
  obtain ⟨g1, g2, g3, g4, g5, g6, g7, g8, g9⟩ := id h
  have dx := part_dep (i := i) p1 p2 f
  have dy := part_dep (i := i) q1 q2 f
  rw [← ex] at dx
  rw [← ey] at dy
  refine g_parts hI hi g1 g2 hd g3 g4 (fun M2 s2 w2 r23 r24 r25 f2 e2 ev e9 => ?_)
  exact hc Q _ M2 (d + 1) _ _ (s + 1) n s2 (by rw [w2]; omega) (by rw [e9]; exact o1) (by rw [e9]; exact o2) (by rw [ev]; exact o3) (by rw [ev]; exact o4) (by omega) (by omega) (by omega) (by omega) (fun r2 M3 hh => ⟨hr, hh⟩) k
theorem lp_first (hI : InvC C) {K : Int → Mem → Prop} {M : Mem} {d : Nat} {s : Int} (ex : x = nd f p1 p2) (ey : y = nd f q1 q2) (hf : f < 100) (h : BT C x y σ prog M d s) (k : w_X0_meetParts M 0 K) : w_X0_begin M K := by
  have hd := BT_d h
  obtain ⟨e1, e2, e3, e4⟩ := BT_fr hI ex ey hf hf h
  obtain ⟨g1, g2, g3, g4, g5, g6, g7, g8, g9⟩ := id h
  have h370 := g1.1.2.2.2.2.2.1
  refine l_X g2 hd (h_front h370 g3 (l_Y g2 hd (h_front h370 g4 ?_)))
  rw [e1, e2]
  exact ⟨fun z => absurd rfl z, fun _ => k⟩
theorem bj_one (hI : InvC C) (ex : x = nd f p1 p2) (ey : y = nd f q1 q2) (hf : f < 100) (har : 0 < C 12 f) (hc : CJ C p1 q1 σ (PR prog x y) r1 σ1 t1) (hu : σ.2.1 ≤ σ1.2.1) (hj : (t1 : Int) ≤ 4 * (σ1.2.2.1 - σ.2.2.1)) (hF : FJ C x y σ1 prog r1 0 r σ' t) : BJ C x y σ prog r σ' (t1 + t + 1) := by
  intro Q M d s n h hs k
  rw [show n + (t1 + t + 1) = (n + t + t1) + 1 by omega]
  refine lp_begin h (by omega) (lp_first hI ex ey hf h (lp_part hI (Or.inl rfl) ex ey hf har h (by omega) hc hu (fun M2 bt w2 f2 e2 => ?_)))
  refine hF Q M2 d (s + 1 + t1) n bt w2 (by omega) (fun M3 s3 o3 f3 e3 => ?_)
  have := k M3 s3 o3 (f2.tr f3) (e2.tr e3)
  rw [show s + ((t1 + t + 1 : Nat) : Int) = s + 1 + t1 + t by omega] at this
  exact this
theorem bs_one (hI : InvC C) (ex : x = nd f p1 p2) (ey : y = nd f q1 q2) (hf : f < 100) (har : 0 < C 12 f) (hc : CJ C p1 q1 σ (PR prog x y) r1 σ1 t1) (hu : σ.2.1 ≤ σ1.2.1) (hj : (t1 : Int) ≤ 4 * (σ1.2.2.1 - σ.2.2.1)) (hF : FS C x y σ1 prog r1 0 t) : BS C x y σ prog (t1 + t + 1) := by
  intro Q M d s n h hs k
  rw [show n + 1 + (t1 + t + 1) = (n + 1 + t + t1) + 1 by omega]
  refine lp_begin h (by omega) (lp_first hI ex ey hf h (lp_part hI (Or.inl rfl) ex ey hf har h (by omega) hc hu (fun M2 bt w2 f2 e2 => ?_)))
  exact hF Q M2 d (s + 1 + t1) n bt w2 (by omega) k
theorem bs_first (hI : InvC C) (ex : x = nd f p1 p2) (ey : y = nd f q1 q2) (hf : f < 100) (har : 0 < C 12 f) (hc : CS C p1 q1 σ (PR prog x y) t1) : BS C x y σ prog (t1 + 1) := by
  intro Q M d s n h hs k
  rw [show n + 1 + (t1 + 1) = (n + 1 + t1) + 1 by omega]
  exact lp_begin h (by omega) (lp_first hI ex ey hf h (lp_partS hI (Or.inl rfl) ex ey hf har h (by omega) hc k))
/-- the first parts are alike, and there are second ones -/
theorem fj_second (hI : InvC C) (ex : x = nd f p1 p2) (ey : y = nd f q1 q2) (hf : f < 100) (har : 1 < C 12 f) (hc : CJ C p2 q2 σ (PR prog x y) r1 σ1 t1) (hu : σ.2.1 ≤ σ1.2.1) (hj : (t1 : Int) ≤ 4 * (σ1.2.2.1 - σ.2.2.1)) (hF : FJ C x y σ1 prog r1 1 r σ' t) :
    ∀ (Q : Int → Mem → Prop) (M : Mem) (d : Nat) (s : Int) (n : Nat), BT C x y σ prog M d s → M 25 d = 0 → s + 3 ≤ 4 * σ.2.2.1 → (∀ M2, SCs C σ' prog M2 → M2 3 6 = d → fb d M M2 → ext M M2 → w_X0_run_L14 Q n M2 r (s + (t1 + t + 1 : Nat))) → w_X0_run_L14 Q (n + (t1 + t + 1)) M 1 s := by
  intro Q M d s n h hw hs k
  rw [show n + (t1 + t + 1) = (n + t + t1) + 1 by omega]
  refine lp_goon hI ex ey hf h hw (Or.inl rfl) (Or.inr rfl) (by omega) (fun _ z => by omega) (fun _ _ => ?_) (fun z => absurd z (by decide)) (fun z => absurd z (by decide))
  refine lp_part hI (i := 0 + 1) (Or.inr (by decide)) ex ey hf (by omega) h (by omega) (by rw [if_neg (by decide), if_neg (by decide)]; exact hc) hu (fun M2 bt w2 f2 e2 => ?_)
  refine hF Q M2 d (s + 1 + t1) n bt w2 (by omega) (fun M3 s3 o3 f3 e3 => ?_)
  have := k M3 s3 o3 (f2.tr f3) (e2.tr e3)
  rw [show s + ((t1 + t + 1 : Nat) : Int) = s + 1 + t1 + t by omega] at this
  exact this
theorem bj_two (hI : InvC C) (ex : x = nd f p1 p2) (ey : y = nd f q1 q2) (hf : f < 100) (har : 1 < C 12 f) (hc : CJ C p1 q1 σ (PR prog x y) 1 σ1 t1) (hu : σ.2.1 ≤ σ1.2.1) (hj : (t1 : Int) ≤ 4 * (σ1.2.2.1 - σ.2.2.1)) (hc2 : CJ C p2 q2 σ1 (PR prog x y) r2 σ2 t2) (hu2 : σ1.2.1 ≤ σ2.2.1) (hj2 : (t2 : Int) ≤ 4 * (σ2.2.2.1 - σ1.2.2.1)) (hF : FJ C x y σ2 prog r2 1 r σ' t) : BJ C x y σ prog r σ' (t1 + (t2 + t + 1) + 1) := by
  intro Q M d s n h hs k
  rw [show n + (t1 + (t2 + t + 1) + 1) = (n + (t2 + t + 1) + t1) + 1 by omega]
  refine lp_begin h (by omega) (lp_first hI ex ey hf h (lp_part hI (Or.inl rfl) ex ey hf (by omega) h (by omega) hc hu (fun M2 bt w2 f2 e2 => ?_)))
  refine fj_second hI ex ey hf har hc2 hu2 hj2 hF Q M2 d (s + 1 + t1) n bt w2 (by omega) (fun M3 s3 o3 f3 e3 => ?_)
  have := k M3 s3 o3 (f2.tr f3) (e2.tr e3)
  rw [show s + ((t1 + (t2 + t + 1) + 1 : Nat) : Int) = s + 1 + t1 + ((t2 + t + 1 : Nat) : Int) by omega] at this
  exact this
theorem bs_two (hI : InvC C) (ex : x = nd f p1 p2) (ey : y = nd f q1 q2) (hf : f < 100) (har : 1 < C 12 f) (hc : CJ C p1 q1 σ (PR prog x y) 1 σ1 t1) (hu : σ.2.1 ≤ σ1.2.1) (hj : (t1 : Int) ≤ 4 * (σ1.2.2.1 - σ.2.2.1)) (hc2 : CJ C p2 q2 σ1 (PR prog x y) r2 σ2 t2) (hu2 : σ1.2.1 ≤ σ2.2.1) (hj2 : (t2 : Int) ≤ 4 * (σ2.2.2.1 - σ1.2.2.1)) (hF : FS C x y σ2 prog r2 1 t) : BS C x y σ prog (t1 + (t2 + t + 1) + 1) := by
  intro Q M d s n h hs k
  rw [show n + 1 + (t1 + (t2 + t + 1) + 1) = ((n + 1 + t + t2) + 1 + t1) + 1 by omega]
  refine lp_begin h (by omega) (lp_first hI ex ey hf h (lp_part hI (Or.inl rfl) ex ey hf (by omega) h (by omega) hc hu (fun M2 bt w2 f2 e2 => ?_)))
  refine lp_goon hI ex ey hf bt w2 (Or.inl rfl) (Or.inr rfl) (by omega) (fun _ z => by omega) (fun _ _ => ?_) (fun z => absurd z (by decide)) (fun z => absurd z (by decide))
  refine lp_part hI (i := 0 + 1) (Or.inr (by decide)) ex ey hf (by omega) bt (by omega) (by rw [if_neg (by decide), if_neg (by decide)]; exact hc2) hu2 (fun M3 bt3 w3 f3 e3 => ?_)
  exact hF Q M3 d (s + 1 + t1 + 1 + t2) n bt3 w3 (by omega) k
theorem bs_second (hI : InvC C) (ex : x = nd f p1 p2) (ey : y = nd f q1 q2) (hf : f < 100) (har : 1 < C 12 f) (hc : CJ C p1 q1 σ (PR prog x y) 1 σ1 t1) (hu : σ.2.1 ≤ σ1.2.1) (hj : (t1 : Int) ≤ 4 * (σ1.2.2.1 - σ.2.2.1)) (hc2 : CS C p2 q2 σ1 (PR prog x y) t2) : BS C x y σ prog (t1 + (t2 + 1) + 1) := by
  intro Q M d s n h hs k
  rw [show n + 1 + (t1 + (t2 + 1) + 1) = ((n + 1 + t2) + 1 + t1) + 1 by omega]
  refine lp_begin h (by omega) (lp_first hI ex ey hf h (lp_part hI (Or.inl rfl) ex ey hf (by omega) h (by omega) hc hu (fun M2 bt w2 f2 e2 => ?_)))
  refine lp_goon hI ex ey hf bt w2 (Or.inl rfl) (Or.inr rfl) (by omega) (fun _ z => by omega) (fun _ _ => ?_) (fun z => absurd z (by decide)) (fun z => absurd z (by decide))
  exact lp_partS hI (i := 0 + 1) (Or.inr (by decide)) ex ey hf (by omega) bt (by omega) (by rw [if_neg (by decide), if_neg (by decide)]; exact hc2) k
end H
