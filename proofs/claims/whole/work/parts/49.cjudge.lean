/-! the class judges a pair, step by step -/
abbrev SG : Type := (Tr → Tr → Int) × Int × Int × Int × Int
def SCs (C : Mem) (σ : SG) (prog : Tr → Tr → Prop) (M : Mem) : Prop := SC C σ.1 σ.2.1 σ.2.2.1 σ.2.2.2.1 σ.2.2.2.2 prog M
def PR (prog : Tr → Tr → Prop) (x y : Tr) : Tr → Tr → Prop := fun p r => prog p r ∨ (p = x ∧ r = y)
/-- meet (x, y) is answered r, by t turns of the loop, in the state σ' -/
def CJ (C : Mem) (x y : Tr) (σ : SG) (prog : Tr → Tr → Prop) (r : Int) (σ' : SG) (t : Nat) : Prop :=
  ∀ (Q Kc : Int → Mem → Prop) (M : Mem) (d : Nat) (a b s : Int) (n : Nat), SCs C σ prog M → M 3 6 = d → 0 ≤ a ∧ a < M 1 9 → 0 ≤ b ∧ b < M 1 9 → vC M a = x → vC M b = y → (d : Int) + dep x ≤ 4 + 4 * σ.2.1 → (d : Int) + dep y ≤ 4 + 4 * σ.2.1 → 0 ≤ s → s ≤ 4 * σ.2.2.1 →
    (∀ r2 M2, w_X0_run_L14 Q (n + t) M2 r2 s → Kc r2 M2) → (∀ M2, SCs C σ' prog M2 → M2 3 6 = d → fb d M M2 → ext M M2 → w_X0_run_L14 Q n M2 r (s + t)) → w_X0_meet M a b Kc
/-- meet (x, y) ends the check: SPENT -/
def CS (C : Mem) (x y : Tr) (σ : SG) (prog : Tr → Tr → Prop) (t : Nat) : Prop :=
  ∀ (Q Kc : Int → Mem → Prop) (M : Mem) (d : Nat) (a b s : Int) (n : Nat), SCs C σ prog M → M 3 6 = d → 0 ≤ a ∧ a < M 1 9 → 0 ≤ b ∧ b < M 1 9 → vC M a = x → vC M b = y → (d : Int) + dep x ≤ 4 + 4 * σ.2.1 → (d : Int) + dep y ≤ 4 + 4 * σ.2.1 → 0 ≤ s → s ≤ 4 * σ.2.2.1 →
    (∀ r2 M2, w_X0_run_L14 Q (n + 1 + t) M2 r2 s → Kc r2 M2) → (∀ M2 n2 s2, XC C M2 → w_X0_run_L14 Q (n2 + 1) M2 (-6) s2) → w_X0_meet M a b Kc
/-- the pair stands last under way, not begun -/
def BT (C : Mem) (x y : Tr) (σ : SG) (prog : Tr → Tr → Prop) (M : Mem) (d : Nat) (s : Int) : Prop :=
  SCs C σ (PR prog x y) M ∧ M 3 6 = d + 1 ∧ (0 ≤ M 23 d ∧ M 23 d < M 1 9) ∧ (0 ≤ M 24 d ∧ M 24 d < M 1 9) ∧ vC M (M 23 d) = x ∧ vC M (M 24 d) = y ∧ (d : Int) + dep x ≤ 4 + 4 * σ.2.1 ∧ (d : Int) + dep y ≤ 4 + 4 * σ.2.1 ∧ 0 ≤ s
def BJ (C : Mem) (x y : Tr) (σ : SG) (prog : Tr → Tr → Prop) (r : Int) (σ' : SG) (t : Nat) : Prop :=
  ∀ (Q : Int → Mem → Prop) (M : Mem) (d : Nat) (s : Int) (n : Nat), BT C x y σ prog M d s → s + 4 ≤ 4 * σ.2.2.1 → (∀ M2, SCs C σ' prog M2 → M2 3 6 = d → fb d M M2 → ext M M2 → w_X0_run_L14 Q n M2 r (s + t)) → w_X0_run_L14 Q (n + t) M 2 s
def BS (C : Mem) (x y : Tr) (σ : SG) (prog : Tr → Tr → Prop) (t : Nat) : Prop :=
  ∀ (Q : Int → Mem → Prop) (M : Mem) (d : Nat) (s : Int) (n : Nat), BT C x y σ prog M d s → s + 4 ≤ 4 * σ.2.2.1 → (∀ M2 n2 s2, XC C M2 → w_X0_run_L14 Q (n2 + 1) M2 (-6) s2) → w_X0_run_L14 Q (n + 1 + t) M 2 s
/-- the last of its parts that was met has the verdict v -/
def FJ (C : Mem) (x y : Tr) (σ : SG) (prog : Tr → Tr → Prop) (v w r : Int) (σ' : SG) (t : Nat) : Prop :=
  ∀ (Q : Int → Mem → Prop) (M : Mem) (d : Nat) (s : Int) (n : Nat), BT C x y σ prog M d s → M 25 d = w → s + 2 ≤ 4 * σ.2.2.1 → (∀ M2, SCs C σ' prog M2 → M2 3 6 = d → fb d M M2 → ext M M2 → w_X0_run_L14 Q n M2 r (s + t)) → w_X0_run_L14 Q (n + t) M v s
def FS (C : Mem) (x y : Tr) (σ : SG) (prog : Tr → Tr → Prop) (v w : Int) (t : Nat) : Prop :=
  ∀ (Q : Int → Mem → Prop) (M : Mem) (d : Nat) (s : Int) (n : Nat), BT C x y σ prog M d s → M 25 d = w → s + 2 ≤ 4 * σ.2.2.1 → (∀ M2 n2 s2, XC C M2 → w_X0_run_L14 Q (n2 + 1) M2 (-6) s2) → w_X0_run_L14 Q (n + 1 + t) M v s
section H
variable {C : Mem} {x y : Tr} {σ σ1 σ' : SG} {prog : Tr → Tr → Prop} {r v w : Int} {t t1 : Nat}
theorem dep_pos {M : Mem} {N a : Int} (hT : TB M N) (ha : 0 ≤ a ∧ a < N) : 1 ≤ dep (vC M a) := by
  rw [vC_eq hT ha.1 ha.2, dep_nd]
  have := dep_nn (vC M (M 5 a))
  have := dep_nn (vC M (M 6 a))
  split <;> omega
theorem BT_d {M : Mem} {d : Nat} {s : Int} (h : BT C x y σ prog M d s) : (0 : Int) ≤ d ∧ (d : Int) ≤ 163 := by
  obtain ⟨h1, h2, h3, h4, h5, h6, h7, h8, h9⟩ := h
  have hu := h1.2.2.1
  have := dep_pos h1.1.2.2.2.2.2.2 h3
  rw [h5] at this
  omega
theorem lp_begin {Q : Int → Mem → Prop} {M : Mem} {d : Nat} {s : Int} {n : Nat} (h : BT C x y σ prog M d s) (hs : s + 1 ≤ 4 * σ.2.2.1) (k : w_X0_begin M (fun r M1 => rg (s + 1) ∧ w_X0_run_L14 Q n M1 r (s + 1))) : w_X0_run_L14 Q (n + 1) M 2 s := by
  have hj := SC_j h.1
  obtain ⟨h1, h2, h3, h4, h5, h6, h7, h8, h9⟩ := h
  rw [w_X0_run_L14]
  exact ⟨fun z => by omega, fun _ => ⟨fun z => by omega, fun _ => ⟨fun z => absurd z (by decide), fun _ => ⟨fun z => absurd rfl z, fun _ => k⟩⟩⟩⟩
theorem lp_on {Q : Int → Mem → Prop} {M : Mem} {d : Nat} {s : Int} {n : Nat} (h : BT C x y σ prog M d s) (hv : v = 0 ∨ v = 1) (hs : s + 1 ≤ 4 * σ.2.2.1) (k : w_X0_goOn M v (fun r M1 => rg (s + 1) ∧ w_X0_run_L14 Q n M1 r (s + 1))) : w_X0_run_L14 Q (n + 1) M v s := by
  have hj := SC_j h.1
  obtain ⟨h1, h2, h3, h4, h5, h6, h7, h8, h9⟩ := h
  rw [w_X0_run_L14]
  exact ⟨fun z => by omega, fun _ => ⟨fun z => by omega, fun _ => ⟨fun z => by omega, fun _ => ⟨fun _ => k, fun z => by omega⟩⟩⟩⟩
theorem rg_s {M : Mem} {d : Nat} {s : Int} (h : BT C x y σ prog M d s) (hs : s + 1 ≤ 4 * σ.2.2.1) : rg (s + 1) := by
  have hj := SC_j h.1
  have h9 := h.2.2.2.2.2.2.2.2
  unfold rg
  omega
theorem cj_same (hI : InvC C) : CJ C x x σ prog 1 σ 0 := by
  intro Q Kc M d a b s n h ho ha hb ea eb h1 h2 h3 h4 hk k
  refine g_meetA hI h ha hb (by rw [ea, eb]) (hk _ _ ?_)
  have := k M h ho fb.rf ext.rf
  simpa using this
theorem cj_known (hne : x ≠ y) (hm : σ.1 x y ≠ 0) : CJ C x y σ prog (σ.1 x y - 1) σ 0 := by
  intro Q Kc M d a b s n h ho ha hb ea eb h1 h2 h3 h4 hk k
  refine g_meetB h ha hb (by rw [ea, eb]; exact hne) (by rw [ea, eb]; exact hm) (hk _ _ ?_)
  rw [ea, eb]
  have := k M h ho fb.rf ext.rf
  simpa using this
theorem cj_new (hI : InvC C) (hne : x ≠ y) (hm : σ.1 x y = 0) (hp : ¬ prog x y) (h : BJ C x y (σ.1, σ.2.1, σ.2.2.1 + 1, σ.2.2.2.1, σ.2.2.2.2) prog r σ' t) : CJ C x y σ prog r σ' t := by
  intro Q Kc M d a b s n hS ho ha hb ea eb h1 h2 h3 h4 hk k
  have hu := hS.2.2.1
  have hdp := dep_pos hS.1.2.2.2.2.2.2 ha
  rw [ea] at hdp
  refine g_meetC hI hS ho (by omega) ha hb (by rw [ea, eb]; exact hne) (by rw [ea, eb]; exact hm) (by rw [ea, eb]; exact hp) (fun M3 s3 o3 f1 f2 f3 f4 => hk _ _ ?_)
  rw [ea, eb] at s3
  have l9 := f4.1
  have va : vC M3 a = x := by rw [ext_vC f4 hS.1.2.2.2.2.2.2 ha.2, ea]
  have vb : vC M3 b = y := by rw [ext_vC f4 hS.1.2.2.2.2.2.2 hb.2, eb]
  refine h Q M3 d s n ⟨s3, o3, by rw [f1]; omega, by rw [f2]; omega, by rw [f1]; exact va, by rw [f2]; exact vb, h1, h2, h3⟩ (by show s + 4 ≤ 4 * (σ.2.2.1 + 1); omega) (fun M2 g1 g2 g3 g4 => k M2 g1 g2 (f3.tr g3) (f4.tr g4))
theorem cs_new (hI : InvC C) (hne : x ≠ y) (hm : σ.1 x y = 0) (hp : ¬ prog x y) (h : BS C x y (σ.1, σ.2.1, σ.2.2.1 + 1, σ.2.2.2.1, σ.2.2.2.2) prog t) : CS C x y σ prog t := by
  intro Q Kc M d a b s n hS ho ha hb ea eb h1 h2 h3 h4 hk k
  have hu := hS.2.2.1
  have hdp := dep_pos hS.1.2.2.2.2.2.2 ha
  rw [ea] at hdp
  refine g_meetC hI hS ho (by omega) ha hb (by rw [ea, eb]; exact hne) (by rw [ea, eb]; exact hm) (by rw [ea, eb]; exact hp) (fun M3 s3 o3 f1 f2 f3 f4 => hk _ _ ?_)
  rw [ea, eb] at s3
  have l9 := f4.1
  have va : vC M3 a = x := by rw [ext_vC f4 hS.1.2.2.2.2.2.2 ha.2, ea]
  have vb : vC M3 b = y := by rw [ext_vC f4 hS.1.2.2.2.2.2.2 hb.2, eb]
  exact h Q M3 d s n ⟨s3, o3, by rw [f1]; omega, by rw [f2]; omega, by rw [f1]; exact va, by rw [f2]; exact vb, h1, h2, h3⟩ (by show s + 4 ≤ 4 * (σ.2.2.1 + 1); omega) k
/-- behind a child of the last pair: the pair stands there as it did -/
theorem BT_after {M M2 : Mem} {d : Nat} {s s2 : Int} (h : BT C x y σ prog M d s) (h2 : SCs C σ1 (PR prog x y) M2) (ho : M2 3 6 = ((d + 1 : Nat) : Int)) (hf : fb ((d + 1 : Nat) : Int) M M2) (he : ext M M2) (hu : σ.2.1 ≤ σ1.2.1) (hs : 0 ≤ s2) : BT C x y σ1 prog M2 d s2 := by
  obtain ⟨g1, g2, g3, g4, g5, g6, g7, g8, g9⟩ := h
  have q := hf d (by omega) (by omega)
  have hT := g1.1.2.2.2.2.2.2
  have l9 := he.1
  refine ⟨h2, by omega, by rw [q.1]; omega, by rw [q.2.1]; omega, ?_, ?_, by omega, by omega, hs⟩
  · rw [q.1, ext_vC he hT g3.2]
    exact g5
  · rw [q.2.1, ext_vC he hT g4.2]
    exact g6
/-- the pair is closed -/
theorem lp_close (hI : InvC C) {Q : Int → Mem → Prop} {M : Mem} {d : Nat} {s : Int} {n : Nat} (h : BT C x y σ prog M d s) (hs : s + 1 ≤ 4 * σ.2.2.1) (hm : σ.1 x y = 0) (hv : v = 0 ∨ v = 1) (k : ∀ M2, SCs C (mst σ.1 x y (v + 1), σ.2.1, σ.2.2.1, σ.2.2.2.1, σ.2.2.2.2) prog M2 → M2 3 6 = d → fb d M M2 → ext M M2 → w_X0_run_L14 Q n M2 v (s + 1)) : w_X0_close M v (fun r M1 => rg (s + 1) ∧ w_X0_run_L14 Q n M1 r (s + 1)) := by
  have hd := BT_d h
  have hr := rg_s h hs
  obtain ⟨g1, g2, g3, g4, g5, g6, g7, g8, g9⟩ := h
  refine g_close hI g1 g2 hd g3 g4 (by rw [g5, g6]; exact hm) hv (fun p q hpq => by rw [g5, g6]; exact hpq) (fun M2 s2 o2 f2 e2 => ⟨hr, k M2 ?_ o2 f2 e2⟩)
  rw [g5, g6] at s2
  exact s2
/-- what came by unfolding is judged: so is the pair -/
theorem lp_after (hI : InvC C) {Q : Int → Mem → Prop} {M : Mem} {d : Nat} {s : Int} {n : Nat} (h : BT C x y σ prog M d s) (hw : M 25 d = 2) (hs : s + 1 ≤ 4 * σ.2.2.1) (hm : σ.1 x y = 0) (hv : v = 0 ∨ v = 1) (k : ∀ M2, SCs C (mst σ.1 x y (v + 1), σ.2.1, σ.2.2.1, σ.2.2.2.1, σ.2.2.2.2) prog M2 → M2 3 6 = d → fb d M M2 → ext M M2 → w_X0_run_L14 Q n M2 v (s + 1)) : w_X0_run_L14 Q (n + 1) M v s := by
  have hd := BT_d h
  refine lp_on h hv hs (l_W h.2.1 hd ?_)
  rw [hw]
  exact ⟨fun z => absurd rfl z, fun _ => lp_close hI h hs hm hv k⟩
/-- the last pair is unfolded, and what comes is met -/
theorem lp_unfold (hI : InvC C) {Q : Int → Mem → Prop} {M : Mem} {d : Nat} {s : Int} {n : Nat} {ax ay more : Int} {x' y' : Tr} (ham : (ax = 1 ∧ ay = 1 ∧ more = 2) ∨ (ax = 1 ∧ ay = 0 ∧ more = 1) ∨ (ax = 0 ∧ ay = 1 ∧ more = 1))
    (hx1 : ax = 1 → ∃ f p q, x = nd f p q ∧ foldN C f ∧ x' = sub p q (dfn C f)) (hx0 : ax = 0 → x' = x) (hy1 : ay = 1 → ∃ f p q, y = nd f p q ∧ foldN C f ∧ y' = sub p q (dfn C f)) (hy0 : ay = 0 → y' = y)
    (h : BT C x y σ prog M d s) (hs : s + 1 ≤ 4 * σ.2.2.1) (hle : σ.2.1 + more ≤ 40) (hc : CJ C x' y' (σ.1, σ.2.1 + more, σ.2.2.1, σ.2.2.2.1, σ.2.2.2.2) (PR prog x y) v σ1 t1) (hu : σ.2.1 + more ≤ σ1.2.1) (hj : (t1 : Int) ≤ 4 * (σ1.2.2.1 - σ.2.2.1)) (hm : σ1.1 x y = 0) (hv : v = 0 ∨ v = 1) (hs2 : s + 2 ≤ 4 * σ.2.2.1)
    (k : ∀ M2, SCs C (mst σ1.1 x y (v + 1), σ1.2.1, σ1.2.2.1, σ1.2.2.2.1, σ1.2.2.2.2) prog M2 → M2 3 6 = d → fb d M M2 → ext M M2 → w_X0_run_L14 Q n M2 v (s + 1 + t1 + 1)) : w_X0_unfold M ax ay (fun r M1 => rg (s + 1) ∧ w_X0_run_L14 Q (n + 1 + t1) M1 r (s + 1)) := by
  have hd := BT_d h
  have hr := rg_s h hs
  obtain ⟨g1, g2, g3, g4, g5, g6, g7, g8, g9⟩ := id h
  have dx : dep x' ≤ dep x + 3 := by
    rcases ham with e | e | e
    · obtain ⟨f, p, q, e1, e2, e3⟩ := hx1 e.1
      rw [e3, e1]
      exact dep_unf hI e2
    · obtain ⟨f, p, q, e1, e2, e3⟩ := hx1 e.1
      rw [e3, e1]
      exact dep_unf hI e2
    · rw [hx0 e.1]
      omega
  have dy : dep y' ≤ dep y + 3 := by
    rcases ham with e | e | e
    · obtain ⟨f, p, q, e1, e2, e3⟩ := hy1 e.2.1
      rw [e3, e1]
      exact dep_unf hI e2
    · rw [hy0 e.2.1]
      omega
    · obtain ⟨f, p, q, e1, e2, e3⟩ := hy1 e.2.1
      rw [e3, e1]
      exact dep_unf hI e2
  refine g_unfold hI ham g1 g2 hd g3 g4 (fun z => by rw [g5]; exact hx1 z) (fun z => by rw [g5]; exact hx0 z) (fun z => by rw [g6]; exact hy1 z) (fun z => by rw [g6]; exact hy0 z) (fun z => by omega) (fun _ M2 a' b' s2 o2 r23 r24 r25 f2 e2 ha' hb' va vb => ?_)
  have hT := g1.1.2.2.2.2.2.2
  have l9 := e2.1
  refine hc Q _ M2 (d + 1) a' b' (s + 1) (n + 1) s2 (by rw [o2]; omega) ha' hb' va vb ?_ ?_ (by omega) (by show s + 1 ≤ 4 * σ.2.2.1; omega) (fun r2 M3 hh => ⟨hr, hh⟩) (fun M3 s3 o3 f3 e3 => ?_)
  · show ((d + 1 : Nat) : Int) + dep x' ≤ 4 + 4 * (σ.2.1 + more)
    omega
  · show ((d + 1 : Nat) : Int) + dep y' ≤ 4 + 4 * (σ.2.1 + more)
    omega
  · have q := f3 d (by omega) (by omega)
    have bt : BT C x y σ1 prog M3 d (s + 1 + t1) := by
      refine ⟨s3, by omega, by rw [q.1, r23]; have := e3.1; omega, by rw [q.2.1, r24]; have := e3.1; omega, ?_, ?_, by omega, by omega, by omega⟩
      · rw [q.1, r23, ext_vC (e2.tr e3) hT g3.2]
        exact g5
      · rw [q.2.1, r24, ext_vC (e2.tr e3) hT g4.2]
        exact g6
    refine lp_after hI bt (by rw [q.2.2]; exact r25) (by omega) hm hv (fun M4 s4 o4 f4 e4 => k M4 s4 o4 ((f2.tr (f3.le (by omega))).tr f4) ((e2.tr e3).tr e4))
end H
