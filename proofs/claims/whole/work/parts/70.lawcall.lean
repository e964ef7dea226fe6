/-! a call out of the law: the cells of one world change, all else stays -/
theorem lw_call {X : WX} {p : Program} {l : Launch} {e : Env} {R : Room} {s : State} {m : MethodId} {args : Array Value} {below : List Frame} {meth : Method} {c : Code} {H : Heap} {locs : List Loc} {cells slots pc : Nat} {Qf : State → Prop} {ls : Array Slot} {st0 rest : List Value} {a : Array Value} {H0 : Heap} {A0 : Nat → Prop} {Q' : Option Value → Mem → Prop}
    (hr : va_Run p l e R s m args below meth c H locs cells slots 0 0 (F0 m pc ls st0) rest (AQ X Q' a) (xA X)) (hS : va_S A0 H0 H locs) (hA : ∀ q, xA X q → A0 q)
    (kk : ∀ (v : Option Value) (M1 : Mem) (H1 : Heap) (locs1 : List Loc), Q' v M1 → RG X M1 → va_P (xD X) vwCl (xw X M1) H1 → (∀ q : Nat, q < H.size → ¬ xA X q → H1[q]? = H[q]?) → va_S A0 H0 H1 locs1 → W p l e R s m args below meth c H1 locs1 (cells + 0) (slots + 0) Qf (F0 m (pc + 3) ls (v.toList ++ rest))) : W p l e R s m args below meth c H locs cells slots Qf (F0 m pc ls st0) := by
  intro T hT Xs
  obtain ⟨v, st₀, t, T', L, h0, X', hL, e1, e2, ⟨⟨v2, M1, hv, hq, hR, hP, hK⟩, hz, hk⟩, stp⟩ := hr T hT Xs
  cases hv
  rw [h0] at hz hk
  obtain ⟨t2, a1, b1⟩ := kk v M1 T'.heap (locs ++ L) hq hR (by rw [e1]; exact hP) (fun q h1 h2 => by rw [e1]; exact hk q h1 h2)
    ⟨Nat.le_trans hS.1 (by rw [e1]; exact hz), fun q h1 h2 => by rw [e1, hk q (Nat.lt_of_lt_of_le h1 hS.1) (fun z => h2 (hA q z))]; exact hS.2.1 q h1 h2, fun q hq => by
      rcases List.mem_append.mp hq with h | h
      · exact hS.2.2 q h
      · exact hA _ (hL q h)⟩ T' rfl X'
  exact ⟨t2, stp t2 a1, b1⟩
/-- what holds at the loop's head: the two worlds, apart from one another -/
def LI (XC XM : WX) (s : State) (k : Int) (C M : Mem) (H : Heap) (locs : List Loc) : Prop :=
  Rel k C M ∧ RG XC C ∧ RG XM M ∧ va_P (xD XC) vwCl (xw XC C) H ∧ va_P (xD XM) vwCl (xw XM M) H ∧ va_S (fun q : Nat => s.heap.size ≤ q) s.heap H locs
def LF (XC XM : WX) (s : State) : Prop :=
  (va_K (xD XC) vwCl (xty XC) s ∧ va_K (xD XM) vwCl (xty XM) s) ∧ (∀ M, va_D (xA XC) (xw XC M)) ∧ (∀ M, va_D (xA XM) (xw XM M)) ∧ (∀ q, xA XC q → s.heap.size ≤ q) ∧ (∀ q, xA XM q → s.heap.size ≤ q) ∧ ∀ q, xA XC q → ¬ xA XM q
theorem keep_w {X Y : WX} {M : Mem} {H H1 : Heap} (hP : va_P (xD Y) vwCl (xw Y M) H) (hk : ∀ q : Nat, q < H.size → ¬ xA X q → H1[q]? = H[q]?) (hd : ∀ q, xA Y q → ¬ xA X q) : va_P (xD Y) vwCl (xw Y M) H1 := by
  refine hP.kept (fun k x hx => hk x.1 ((hP k x hx).lt) (hd _ ?_))
  have hl : k < (xw Y M).length := (List.getElem?_eq_some_iff.mp hx).1
  have hl2 : k < xK Y := by
    unfold xw at hl
    rw [List.length_map, List.length_range] at hl
    exact hl
  rw [xw_get Y M hl2] at hx
  cases hx
  exact ⟨k, hl2, rfl⟩
