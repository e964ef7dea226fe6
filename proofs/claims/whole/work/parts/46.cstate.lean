/-! the class within a check: its state, and its small steps -/
def wfT (C : Mem) : Tr → Prop
  | .op (.var f) (.op a b) => (((f : Int) < C 2 7 ∧ f < 100) ∧ (C 12 f < 1 → a = nl) ∧ (C 12 f < 2 → b = nl)) ∧ (1 ≤ C 12 f → wfT C a) ∧ (2 ≤ C 12 f → wfT C b)
  | _ => False
theorem wfT_nd (C : Mem) (f : Nat) (a b : Tr) : wfT C (nd f a b) ↔ (((f : Int) < C 2 7 ∧ f < 100) ∧ (C 12 f < 1 → a = nl) ∧ (C 12 f < 2 → b = nl)) ∧ (1 ≤ C 12 f → wfT C a) ∧ (2 ≤ C 12 f → wfT C b) := by
  unfold nd
  rw [wfT]
theorem wfT_form {C : Mem} {t : Tr} (h : wfT C t) : ∃ f a b, t = nd f a b := by
  match t, h with
  | .op (.var f) (.op a b), _ => exact ⟨f, a, b, rfl⟩
/-- what was judged, changed at a pair -/
noncomputable def mst (mm : Tr → Tr → Int) (x y : Tr) (v : Int) : Tr → Tr → Int := fun p q => @ite Int (p = x ∧ q = y) (Classical.propDecidable _) v (mm p q)
theorem mst_at (mm : Tr → Tr → Int) (x y : Tr) (v : Int) : mst mm x y v x y = v := by
  unfold mst
  rw [if_pos ⟨rfl, rfl⟩]
theorem mst_off {mm : Tr → Tr → Int} {x y p q : Tr} {v : Int} (h : ¬ (p = x ∧ q = y)) : mst mm x y v p q = mm p q := by
  unfold mst
  rw [if_neg h]
theorem nodup_le : ∀ (N : Nat) (L : List Nat), L.Nodup → (∀ n ∈ L, n < N) → L.length ≤ N := by
  intro N
  induction N with
  | zero =>
    intro L _ h
    cases L with
    | nil => exact Nat.le_refl 0
    | cons a l => exact absurd (h a List.mem_cons_self) (Nat.not_lt_zero a)
  | succ N ih =>
    intro L hn h
    have h1 := ih (L.filter (fun n => decide (n < N))) (hn.filter _) (fun n hm => by
      have := (List.mem_filter.mp hm).2
      simpa using this)
    have h2 : (L.filter (fun n => !decide (n < N))).length ≤ 1 := by
      have hnd : (L.filter (fun n => !decide (n < N))).Nodup := hn.filter _
      have he : ∀ n ∈ L.filter (fun n => !decide (n < N)), n = N := fun n hm => by
        have a1 := (List.mem_filter.mp hm).1
        have a2 := (List.mem_filter.mp hm).2
        have a3 := h n a1
        simp at a2
        omega
      match hL : L.filter (fun n => !decide (n < N)), hnd, he with
      | [], _, _ => simp
      | [_], _, _ => simp
      | a :: b :: l, hnd, he =>
        have ea := he a List.mem_cons_self
        have eb := he b (List.mem_cons_of_mem _ List.mem_cons_self)
        rw [ea, eb] at hnd
        exact absurd List.mem_cons_self (List.nodup_cons.mp hnd).1
    have h3 : ∀ l : List Nat, l.length = (l.filter (fun n => decide (n < N))).length + (l.filter (fun n => !decide (n < N))).length := by
      intro l
      induction l with
      | nil => rfl
      | cons a l il =>
        by_cases c : a < N
        · rw [List.filter_cons_of_pos (by simp [c]), List.filter_cons_of_neg (by simp [c])]
          simp only [List.length_cons]
          omega
        · rw [List.filter_cons_of_neg (by simp [c]), List.filter_cons_of_pos (by simp [c])]
          simp only [List.length_cons]
          omega
    have := h3 L
    omega
/-- the class's state: mm what was judged, u unfoldings, j judged, c1 c2 the clash, prog what is under way -/
def SC (C : Mem) (mm : Tr → Tr → Int) (u j c1 c2 : Int) (prog : Tr → Tr → Prop) (M : Mem) : Prop :=
  XC C M ∧ M 1 9 ≤ 90 + 7 * u ∧ (0 ≤ u ∧ u ≤ 40) ∧ (M 3 7 = u ∧ M 3 8 = j ∧ M 3 9 = c1 ∧ M 3 10 = c2) ∧
  (∀ a b, 0 ≤ a → a < M 1 9 → 0 ≤ b → b < M 1 9 → jv M a b = mm (vC M a) (vC M b)) ∧
  (∀ a b, 0 ≤ a → a < 370 → 0 ≤ b → b < 370 → ¬ (a < M 1 9 ∧ b < M 1 9) → jv M a b = 0) ∧
  (∀ p q, mm p q ≠ 0 → (mm p q = 1 ∨ mm p q = 2) ∧ ∃ a b, (0 ≤ a ∧ a < M 1 9) ∧ (0 ≤ b ∧ b < M 1 9) ∧ vC M a = p ∧ vC M b = q) ∧
  ∃ L : List Nat, L.Nodup ∧ (L.length : Int) = j ∧ ∀ n ∈ L, ∃ a b : Int, (0 ≤ a ∧ a < M 1 9) ∧ (0 ≤ b ∧ b < M 1 9) ∧ (n : Int) = a * 370 + b ∧ (mm (vC M a) (vC M b) ≠ 0 ∨ prog (vC M a) (vC M b))
theorem SC_j {C : Mem} {mm : Tr → Tr → Int} {u j c1 c2 : Int} {prog : Tr → Tr → Prop} {M : Mem} (h : SC C mm u j c1 c2 prog M) : 0 ≤ j ∧ j ≤ 136900 := by
  obtain ⟨hX, h1, h2, h3, h4, h5, h6, L, l1, l2, l3⟩ := h
  have h370 := hX.2.2.2.2.2.1
  have := nodup_le 136900 L l1 (fun n hn => by
    obtain ⟨a, b, a1, b1, e, -⟩ := l3 n hn
    omega)
  omega
/-- below d the rows of the stack are the same -/
def fb (d : Int) (M M' : Mem) : Prop := ∀ i : Int, 0 ≤ i → i < d → M' 23 i = M 23 i ∧ M' 24 i = M 24 i ∧ M' 25 i = M 25 i
def ext (M M' : Mem) : Prop := M 1 9 ≤ M' 1 9 ∧ ∀ i : Int, 0 ≤ i → i < M 1 9 → M' 4 i = M 4 i ∧ M' 5 i = M 5 i ∧ M' 6 i = M 6 i
theorem fb.rf {d : Int} {M : Mem} : fb d M M := fun _ _ _ => ⟨rfl, rfl, rfl⟩
theorem fb.tr {d : Int} {M M1 M2 : Mem} (h : fb d M M1) (h2 : fb d M1 M2) : fb d M M2 := fun i i0 i1 => ⟨(h2 i i0 i1).1.trans (h i i0 i1).1, (h2 i i0 i1).2.1.trans (h i i0 i1).2.1, (h2 i i0 i1).2.2.trans (h i i0 i1).2.2⟩
theorem fb.le {d d' : Int} {M M1 : Mem} (h : fb d M M1) (hd : d' ≤ d) : fb d' M M1 := fun i i0 i1 => h i i0 (by omega)
theorem ext.rf {M : Mem} : ext M M := ⟨Int.le_refl _, fun _ _ _ => ⟨rfl, rfl, rfl⟩⟩
theorem ext.tr {M M1 M2 : Mem} (h : ext M M1) (h2 : ext M1 M2) : ext M M2 := by
  refine ⟨Int.le_trans h.1 h2.1, fun i i0 i1 => ?_⟩
  have q := h2.2 i i0 (Int.lt_of_lt_of_le i1 h.1)
  have p := h.2 i i0 i1
  exact ⟨q.1.trans p.1, q.2.1.trans p.2.1, q.2.2.trans p.2.2⟩
theorem ext_vC {M M' : Mem} (h : ext M M') (hT : TB M (M 1 9)) {x : Int} (hx : x < M 1 9) : vC M' x = vC M x := vC_ext hT h.2 hx
theorem jv_cell {M M' : Mem} (h : M' 22 = M 22) (a b : Int) : jv M' a b = jv M a b := by
  unfold jv
  rw [h]
section H
variable {C : Mem} {mm : Tr → Tr → Int} {u j c1 c2 : Int} {prog : Tr → Tr → Prop} {M : Mem}
/-- the state stays as the table grows -/
theorem SC_grows {M' : Mem} {u' : Int} (hI : InvC C) (h : SC C mm u j c1 c2 prog M) (g : grows M M') (hX : XC C M') (h9 : M' 1 9 ≤ 90 + 7 * u') (hu : 0 ≤ u' ∧ u' ≤ 40) (e7 : M 3 7 = u') : SC C mm u' j c1 c2 prog M' := by
  obtain ⟨hX0, h1, h2, ⟨h3, h3', h3'', h3'''⟩, h4, h5, h6, L, l1, l2, l3⟩ := h
  have e3 : M' 3 = M 3 := g.1 3 (by decide) (by decide) (by decide) (by decide)
  have e22 : M' 22 = M 22 := g.1 22 (by decide) (by decide) (by decide) (by decide)
  have hT := hX0.2.2.2.2.2.2
  have hT' := hX.2.2.2.2.2.2
  have h12 : M' 2 7 ≤ 12 := by rw [hX.1 2 (by omega)]; exact hI.1.2.1
  have lg := g.2.2.1
  have vv : ∀ x, x < M 1 9 → vC M' x = vC M x := fun x hx => grows_vC g hT hx
  refine ⟨hX, h9, hu, by rw [e3]; exact ⟨e7, h3', h3'', h3'''⟩, fun a b a0 a1 b0 b1 => ?_, fun a b a0 a1 b0 b1 hn => ?_, fun p q hp => ?_, L, l1, l2, fun n hn => ?_⟩
  · rw [jv_cell e22]
    by_cases c : a < M 1 9 ∧ b < M 1 9
    · rw [vv a c.1, vv b c.2]
      exact h4 a b a0 c.1 b0 c.2
    · have h370 := hX.2.2.2.2.2.1
      rw [h5 a b a0 (by omega) b0 (by omega) c]
      by_cases z : mm (vC M' a) (vC M' b) = 0
      · exact z.symm
      · obtain ⟨-, a', b', ha', hb', ea, eb⟩ := h6 _ _ z
        rw [← vv a' ha'.2] at ea
        rw [← vv b' hb'.2] at eb
        have q1 := vC_inj hT' h12 (by omega) a1 (by omega) (by omega) ea
        have q2 := vC_inj hT' h12 (by omega) b1 (by omega) (by omega) eb
        omega
  · rw [jv_cell e22]
    exact h5 a b a0 a1 b0 b1 (by omega)
  · obtain ⟨v, a, b, ha, hb, ea, eb⟩ := h6 p q hp
    exact ⟨v, a, b, by omega, by omega, by rw [vv a ha.2]; exact ea, by rw [vv b hb.2]; exact eb⟩
  · obtain ⟨a, b, ha, hb, e, o⟩ := l3 n hn
    refine ⟨a, b, by omega, by omega, e, ?_⟩
    rw [vv a ha.2, vv b hb.2]
    exact o
/-- the state doesn't look at the stack -/
theorem SC_stack {M' : Mem} (h : SC C mm u j c1 c2 prog M) (hc : ∀ c : Nat, c ≠ 3 → c ≠ 23 → c ≠ 24 → c ≠ 25 → M' c = M c) (h3 : ∀ i, i ≠ 6 → M' 3 i = M 3 i) : SC C mm u j c1 c2 prog M' := by
  obtain ⟨hX, g1, g2, g3, g4, g5, g6, L, l1, l2, l3⟩ := h
  have e1 : M' 1 = M 1 := hc 1 (by decide) (by decide) (by decide) (by decide)
  have e22 : M' 22 = M 22 := hc 22 (by decide) (by decide) (by decide) (by decide)
  have ev : ∀ x, vC M' x = vC M x := fun x => by
    unfold vC
    rw [hc 4 (by decide) (by decide) (by decide) (by decide), hc 5 (by decide) (by decide) (by decide) (by decide), hc 6 (by decide) (by decide) (by decide) (by decide)]
  have hX' : XC C M' := by
    obtain ⟨x1, x2, x3, x4, x5, x6, x7⟩ := hX
    refine ⟨fun c hcc => by rw [hc c (by omega) (by omega) (by omega) (by omega)]; exact x1 c hcc, by rw [e1]; exact x2, by rw [h3 12 (by decide)]; exact x3, ?_, by rw [e1]; exact x5, by rw [e1]; exact x6, ?_⟩
    · rw [hc 4 (by decide) (by decide) (by decide) (by decide), hc 5 (by decide) (by decide) (by decide) (by decide), hc 6 (by decide) (by decide) (by decide) (by decide)]
      exact x4
    · unfold TB tnode
      rw [e1, hc 2 (by decide) (by decide) (by decide) (by decide), hc 4 (by decide) (by decide) (by decide) (by decide), hc 5 (by decide) (by decide) (by decide) (by decide), hc 6 (by decide) (by decide) (by decide) (by decide), hc 12 (by decide) (by decide) (by decide) (by decide)]
      exact x7
  refine ⟨hX', by rw [e1]; exact g1, g2, by rw [h3 7 (by decide), h3 8 (by decide), h3 9 (by decide), h3 10 (by decide)]; exact g3, ?_, ?_, ?_, L, l1, l2, ?_⟩
  · intro a b
    rw [e1, jv_cell e22, ev, ev]
    exact g4 a b
  · intro a b
    rw [e1, jv_cell e22]
    exact g5 a b
  · intro p q hp
    rw [e1]
    obtain ⟨v, a, b, ha, hb, ea, eb⟩ := g6 p q hp
    exact ⟨v, a, b, ha, hb, by rw [ev]; exact ea, by rw [ev]; exact eb⟩
  · intro n hn
    rw [e1]
    obtain ⟨a, b, ha, hb, e, o⟩ := l3 n hn
    exact ⟨a, b, ha, hb, e, by rw [ev, ev]; exact o⟩
end H
