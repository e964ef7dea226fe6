/-! what a check goes by: trees, definitions, a measure that falls -/
def foldN (C : Mem) (f : Nat) : Prop := f < 100 ∧ (f : Int) < C 2 7 ∧ C 13 f ≠ -9 ∧ C 14 f = 0
def dfn (C : Mem) (f : Nat) : Tr := vC C (C 13 f)
/-- a name's measure, by those of its parts -/
def evI (I : Nat → Nat → Nat → Nat) (p q : Nat) : Tr → Nat
  | .op (.var f) (.op a b) => if f = 100 then p else if f = 101 then q else I f (evI I p q a) (evI I p q b)
  | _ => 0
theorem evI_nd (I : Nat → Nat → Nat → Nat) (p q f : Nat) (a b : Tr) : evI I p q (nd f a b) = if f = 100 then p else if f = 101 then q else I f (evI I p q a) (evI I p q b) := by
  unfold nd
  rw [evI]
theorem evI_nl (I : Nat → Nat → Nat → Nat) (p q : Nat) : evI I p q nl = 0 := rfl
noncomputable def Ix (C : Mem) : Nat → Nat → Nat → Nat → Nat
  | 0 => fun _ a b => 1 + a + b
  | n + 1 => fun f a b => 1 + a + b + (@ite Nat (foldN C f) (Classical.propDecidable _) (evI (Ix C n) a b (dfn C f)) 0)
noncomputable def mu (C : Mem) (t : Tr) : Nat := evI (Ix C 13) 0 0 t
theorem evI_ext {I I' : Nat → Nat → Nat → Nat} {p q : Nat} (t : Tr) : allF (fun f => f < 100 → ∀ a b, I f a b = I' f a b) t → allF (fun f => f ≤ 101) t → evI I p q t = evI I' p q t := by
  refine tr_ind (P := fun t => allF (fun f => f < 100 → ∀ a b, I f a b = I' f a b) t → allF (fun f => f ≤ 101) t → evI I p q t = evI I' p q t) ?_ ?_ t
  · intro t hn _ _
    rw [tr_leaf (evI I p q) 0 (fun _ => rfl) (fun _ _ _ => rfl) (fun _ _ => rfl) t hn, tr_leaf (evI I' p q) 0 (fun _ => rfl) (fun _ _ _ => rfl) (fun _ _ => rfl) t hn]
  · intro f a b ha hb h1 h2
    rw [allF_nd] at h1 h2
    rw [evI_nd, evI_nd]
    by_cases e1 : f = 100
    · rw [if_pos e1, if_pos e1]
    · by_cases e2 : f = 101
      · rw [if_neg e1, if_neg e1, if_pos e2, if_pos e2]
      · rw [if_neg e1, if_neg e1, if_neg e2, if_neg e2, ha h1.2.1 h2.2.1, hb h1.2.2 h2.2.2, h1.1 (by omega)]
theorem evI_sub (I : Nat → Nat → Nat → Nat) (x y : Tr) (t : Tr) : evI I 0 0 (sub x y t) = evI I (evI I 0 0 x) (evI I 0 0 y) t := by
  refine tr_ind (P := fun t => evI I 0 0 (sub x y t) = evI I (evI I 0 0 x) (evI I 0 0 y) t) ?_ ?_ t
  · intro t hn
    have e : sub x y t = t := by
      match t, hn with
      | .op (.var f) (.op a b), hn => exact absurd rfl (hn f a b)
      | .var _, _ => rfl
      | .op (.op _ _) _, _ => rfl
      | .op (.var _) (.var _), _ => rfl
    rw [e, tr_leaf (evI I 0 0) 0 (fun _ => rfl) (fun _ _ _ => rfl) (fun _ _ => rfl) t hn, tr_leaf (evI I _ _) 0 (fun _ => rfl) (fun _ _ _ => rfl) (fun _ _ => rfl) t hn]
  · intro f a b ha hb
    rw [sub_nd, evI_nd]
    by_cases e1 : f = 100
    · rw [if_pos e1, if_pos e1]
    · by_cases e2 : f = 101
      · rw [if_neg e1, if_neg e1, if_pos e2, if_pos e2]
      · rw [if_neg e1, if_neg e1, if_neg e2, if_neg e2, evI_nd, if_neg e1, if_neg e2, ha, hb]
section H
variable {C : Mem}
theorem dfn_ok (hI : InvC C) {f : Nat} (hf : foldN C f) : made C (C 13 f) ∧ allF (okd f (C 12 f)) (dfn C f) := by
  rcases (hI.1.2.2 f (by omega) hf.2.1).2.2 with e | e
  · exact absurd e hf.2.2.1
  · exact ⟨⟨e.1, e.2.1⟩, e.2.2⟩
theorem dfn_le (hI : InvC C) {f : Nat} (hf : foldN C f) : allF (fun g => g ≤ 101) (dfn C f) := by
  have har := (hI.1.2.2 f (by omega) hf.2.1).1
  exact allF_mono (fun g hg => by unfold okd at hg; omega) _ (dfn_ok hI hf).2
theorem Ix_stab (hI : InvC C) : ∀ (n f : Nat), f < n → ∀ a b, Ix C (n + 1) f a b = Ix C n f a b := by
  intro n
  induction n with
  | zero => intro f h; omega
  | succ n ih =>
    intro f hf a b
    show 1 + a + b + (@ite Nat (foldN C f) (Classical.propDecidable _) (evI (Ix C (n + 1)) a b (dfn C f)) 0) = 1 + a + b + (@ite Nat (foldN C f) (Classical.propDecidable _) (evI (Ix C n) a b (dfn C f)) 0)
    by_cases c : foldN C f
    · rw [if_pos c, if_pos c, evI_ext (I := Ix C (n + 1)) (I' := Ix C n) (dfn C f) (allF_mono (fun g hg (hl : g < 100) a b => ih g (by unfold okd at hg; omega) a b) _ (dfn_ok hI c).2) (dfn_le hI c)]
    · rw [if_neg c, if_neg c]
theorem mu_part (C : Mem) {f : Nat} {a b : Tr} (hf : f < 100) : mu C a < mu C (nd f a b) ∧ mu C b < mu C (nd f a b) := by
  unfold mu
  rw [evI_nd, if_neg (by omega), if_neg (by omega)]
  show evI (Ix C 13) 0 0 a < 1 + evI (Ix C 13) 0 0 a + evI (Ix C 13) 0 0 b + _ ∧ evI (Ix C 13) 0 0 b < 1 + evI (Ix C 13) 0 0 a + evI (Ix C 13) 0 0 b + _
  omega
theorem mu_unf (hI : InvC C) {f : Nat} {a b : Tr} (hf : foldN C f) : mu C (sub a b (dfn C f)) < mu C (nd f a b) := by
  have h12 := hI.1.2.1
  unfold mu
  rw [evI_sub, evI_nd, if_neg (by have := hf.1; omega), if_neg (by have := hf.1; omega)]
  show _ < 1 + evI (Ix C 13) 0 0 a + evI (Ix C 13) 0 0 b + (@ite Nat (foldN C f) (Classical.propDecidable _) (evI (Ix C 12) (evI (Ix C 13) 0 0 a) (evI (Ix C 13) 0 0 b) (dfn C f)) 0)
  rw [if_pos hf, evI_ext (I := Ix C 13) (I' := Ix C 12) (dfn C f) (allF_mono (fun g hg (hl : g < 100) a b => Ix_stab hI 12 g (by have := hf.2.1; unfold okd at hg; omega) a b) _ (dfn_ok hI hf).2) (dfn_le hI hf)]
  omega
/-- depths of what comes -/
theorem dep_sub (x y t : Tr) (d : Int) (hx : dep x ≤ d) (hy : dep y ≤ d) (h0 : 1 ≤ d) : dep (sub x y t) ≤ dep t + d - 1 ∨ dep (sub x y t) = 0 := by
  refine tr_ind (P := fun t => dep (sub x y t) ≤ dep t + d - 1 ∨ dep (sub x y t) = 0) ?_ ?_ t
  · intro t hn
    have e : sub x y t = t := by
      match t, hn with
      | .op (.var f) (.op a b), hn => exact absurd rfl (hn f a b)
      | .var _, _ => rfl
      | .op (.op _ _) _, _ => rfl
      | .op (.var _) (.var _), _ => rfl
    rw [e, tr_leaf dep 0 (fun _ => rfl) (fun _ _ _ => rfl) (fun _ _ => rfl) t hn]
    exact Or.inr rfl
  · intro f a b ha hb
    have na := dep_nn a
    have nb := dep_nn b
    rw [sub_nd, dep_nd]
    by_cases e1 : f = 100
    · rw [if_pos e1]
      left
      split <;> omega
    · by_cases e2 : f = 101
      · rw [if_neg e1, if_pos e2]
        left
        split <;> omega
      · rw [if_neg e1, if_neg e2, dep_nd]
        left
        split <;> split <;> omega
theorem dep_unf (hI : InvC C) {f : Nat} {a b : Tr} (hf : foldN C f) : dep (sub a b (dfn C f)) ≤ dep (nd f a b) + 3 := by
  have hm := (dfn_ok hI hf).1
  have hd : dep (dfn C f) ≤ 4 := by
    have := hI.2.2.2.1 _ hm.1 hm.2
    have h1 := this.1
    have h2 := this.2.1
    unfold dfn
    omega
  have na := dep_nn a
  have nb := dep_nn b
  rw [dep_nd]
  by_cases c : dep a ≤ 0 ∧ dep b ≤ 0
  · have := dep_sub a b (dfn C f) 1 (by omega) (by omega) (by omega)
    split <;> omega
  · have := dep_sub a b (dfn C f) (if dep a < dep b then dep b else dep a) (by split <;> omega) (by split <;> omega) (by split <;> omega)
    split at this <;> split <;> omega
/-- closed trees stay so -/
theorem closed_sub {x y : Tr} (hx : allF (fun f => f < 100) x) (hy : allF (fun f => f < 100) y) (t : Tr) : allF (fun f => f ≤ 101) t → allF (fun f => f < 100) (sub x y t) := by
  refine tr_ind (P := fun t => allF (fun f => f ≤ 101) t → allF (fun f => f < 100) (sub x y t)) ?_ ?_ t
  · intro t hn _
    match t, hn with
    | .op (.var f) (.op a b), hn => exact absurd rfl (hn f a b)
    | .var _, _ => trivial
    | .op (.op _ _) _, _ => trivial
    | .op (.var _) (.var _), _ => trivial
  · intro f a b ha hb h
    rw [allF_nd] at h
    rw [sub_nd]
    by_cases e1 : f = 100
    · rw [if_pos e1]
      exact hx
    · by_cases e2 : f = 101
      · rw [if_neg e1, if_pos e2]
        exact hy
      · rw [if_neg e1, if_neg e2, allF_nd]
        exact ⟨by omega, ha h.2.1, hb h.2.2⟩
end H
