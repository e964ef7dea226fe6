/-! what holds of the class's memory between calls -/
def vC (C : Mem) (x : Int) : Tr := tvl (C 4) (C 5) (C 6) x
def tnode (C : Mem) (x : Int) : Prop :=
  ((C 4 x = 100 ∨ C 4 x = 101) ∧ C 5 x = -9 ∧ C 6 x = -9) ∨
  ((0 ≤ C 4 x ∧ C 4 x < C 2 7) ∧ (C 12 (C 4 x) < 1 → C 5 x = -9) ∧ (1 ≤ C 12 (C 4 x) → 0 ≤ C 5 x ∧ C 5 x < x) ∧ (C 12 (C 4 x) < 2 → C 6 x = -9) ∧ (2 ≤ C 12 (C 4 x) → 0 ≤ C 6 x ∧ C 6 x < x))
/-- a table of n terms -/
def TB (C : Mem) (n : Int) : Prop := (∀ x, 0 ≤ x → x < n → tnode C x) ∧ ∀ x y, 0 ≤ x → x < n → 0 ≤ y → y < n → C 4 x = C 4 y → C 5 x = C 5 y → C 6 x = C 6 y → x = y
/-- names: arities, opaqueness, definitions -/
def okd (n a : Int) : Nat → Prop := fun f => ((f : Int) < n ∧ f < 100) ∨ (100 ≤ f ∧ (f : Int) < 100 + a)
def NB (C : Mem) : Prop := 0 ≤ C 2 7 ∧ C 2 7 ≤ 12 ∧ ∀ n, 0 ≤ n → n < C 2 7 → (0 ≤ C 12 n ∧ C 12 n ≤ 2) ∧ b01 (C 14 n) ∧ (C 13 n = -9 ∨ (0 ≤ C 13 n ∧ C 13 n < C 1 8 ∧ allF (okd n (C 12 n)) (vC C (C 13 n))))
def MOST : Int := 1000000000000000
/-- the bits of the names in it -/
def msk : Tr → Int
  | .op (.var f) (.op a b) => bor (bor (msk a) (msk b)) (if 100 ≤ f then 0 else bshl 1 f)
  | _ => 0
theorem msk_nd (f : Nat) (a b : Tr) : msk (nd f a b) = bor (bor (msk a) (msk b)) (if 100 ≤ f then 0 else bshl 1 f) := by
  unfold nd
  rw [msk]
theorem msk_nl : msk nl = 0 := rfl
def tcache (C : Mem) (x : Int) : Prop := C 7 x = dep (vC C x) ∧ C 7 x ≤ 4 ∧ C 8 x = siz (vC C x) ∧ C 9 x = msk (vC C x) ∧ C 10 x = occ 100 (vC C x) ∧ C 11 x = occ 101 (vC C x)
def TC (C : Mem) (n : Int) : Prop := ∀ x, 0 ≤ x → x < n → tcache C x
def fold (C : Mem) (n : Int) : Prop := C 13 n ≠ -9 ∧ C 14 n = 0
/-- the greatest height of the names in it -/
def mxh (h : Int → Int) : Tr → Int
  | .op (.var f) (.op a b) => imax (imax (mxh h a) (mxh h b)) (if 100 ≤ f then 0 else h f)
  | _ => 0
theorem mxh_nd (h : Int → Int) (f : Nat) (a b : Tr) : mxh h (nd f a b) = imax (imax (mxh h a) (mxh h b)) (if 100 ≤ f then 0 else h f) := by
  unfold nd
  rw [mxh]
theorem mxh_nl (h : Int → Int) : mxh h nl = 0 := rfl
/-- the front of its whole -/
def hdw (w : Int → Int) : Tr → Int
  | .op (.var f) (.op a b) => if 100 ≤ f then f else if w f < 100 then w f else if w f = 100 then hdw w a else hdw w b
  | _ => -9
theorem hdw_nd (w : Int → Int) (f : Nat) (a b : Tr) : hdw w (nd f a b) = if 100 ≤ f then (f : Int) else if w f < 100 then w f else if w f = 100 then hdw w a else hdw w b := by
  unfold nd
  rw [hdw]
theorem hdw_nl (w : Int → Int) : hdw w nl = -9 := rfl
def sadd (a b : Int) : Int := imin MOST (a + b)
def smul (a b : Int) : Int := if a * b ≤ MOST then a * b else MOST
/-- what is counted in its whole: k 0, 1: the parameters; 2: names; 3: unfoldings -/
def cnw (c : Nat → Int → Int) (k : Nat) : Tr → Int
  | .op (.var f) (.op a b) => if 100 ≤ f then (if f = 100 + k then 1 else 0) else sadd (sadd (if k < 2 then 0 else c k f) (smul (c 0 f) (cnw c k a))) (smul (c 1 f) (cnw c k b))
  | _ => 0
theorem cnw_nd (c : Nat → Int → Int) (k f : Nat) (a b : Tr) : cnw c k (nd f a b) = if 100 ≤ f then (if f = 100 + k then 1 else 0) else sadd (sadd (if k < 2 then 0 else c k f) (smul (c 0 f) (cnw c k a))) (smul (c 1 f) (cnw c k b)) := by
  unfold nd
  rw [cnw]
theorem cnw_nl (c : Nat → Int → Int) (k : Nat) : cnw c k nl = 0 := rfl
/-- names: what follows from the definitions -/
def ncache (C : Mem) (n : Int) : Prop :=
  (¬ fold C n → C 15 n = 0 ∧ C 16 n = n ∧ C 18 n = (if 0 < C 12 n then 1 else 0) ∧ C 19 n = (if 1 < C 12 n then 1 else 0) ∧ C 20 n = 1 ∧ C 21 n = 0) ∧
  (fold C n → C 15 n = 1 + mxh (C 15) (vC C (C 13 n)) ∧ C 16 n = hdw (C 16) (vC C (C 13 n)) ∧ C 18 n = cnw (fun i => C (18 + i)) 0 (vC C (C 13 n)) ∧ C 19 n = cnw (fun i => C (18 + i)) 1 (vC C (C 13 n)) ∧ C 20 n = cnw (fun i => C (18 + i)) 2 (vC C (C 13 n)) ∧ C 21 n = sadd 1 (cnw (fun i => C (18 + i)) 3 (vC C (C 13 n))))
/-- their ranges -/
def nrange (C : Mem) (n : Int) : Prop := (0 ≤ C 15 n ∧ C 15 n ≤ n + 1) ∧ ((0 ≤ C 16 n ∧ C 16 n ≤ n) ∨ (100 ≤ C 16 n ∧ C 16 n < 100 + C 12 n)) ∧ (0 ≤ C 18 n ∧ C 18 n ≤ MOST) ∧ (0 ≤ C 19 n ∧ C 19 n ≤ MOST) ∧ (0 ≤ C 20 n ∧ C 20 n ≤ MOST) ∧ (0 ≤ C 21 n ∧ C 21 n ≤ MOST)
def NC (C : Mem) (m : Int) : Prop := ∀ n, 0 ≤ n → n < m → ncache C n ∧ nrange C n
def InvC (C : Mem) : Prop := NB C ∧ (0 ≤ C 1 8 ∧ C 1 8 ≤ 90 ∧ C 1 9 = C 1 8) ∧ TB C (C 1 8) ∧ TC C (C 1 8) ∧ NC C (C 2 7) ∧ b01 (C 3 12)
theorem TB.wf {C : Mem} {n : Int} (h : TB C n) : twf (C 5) (C 6) n := by
  intro x h0 h1
  rcases h.1 x h0 h1 with ⟨_, h2, h3⟩ | ⟨_, h2, h3, h4, h5⟩
  · omega
  · constructor
    · by_cases q : C 12 (C 4 x) < 1
      · have := h2 q; omega
      · exact (h3 (by omega)).2
    · by_cases q : C 12 (C 4 x) < 2
      · have := h4 q; omega
      · exact (h5 (by omega)).2
theorem TB.part {C : Mem} {n : Int} (h : TB C n) {x : Int} (h0 : 0 ≤ x) (h1 : x < n) : (C 5 x < 0 → C 5 x = -9) ∧ (C 6 x < 0 → C 6 x = -9) := by
  rcases h.1 x h0 h1 with ⟨_, h2, h3⟩ | ⟨_, h2, h3, h4, h5⟩
  · omega
  · constructor
    · intro q
      by_cases q1 : C 12 (C 4 x) < 1
      · exact h2 q1
      · have := (h3 (by omega)).1; omega
    · intro q
      by_cases q1 : C 12 (C 4 x) < 2
      · exact h4 q1
      · have := (h5 (by omega)).1; omega
theorem TB.fr {C : Mem} {n : Int} (h : TB C n) {x : Int} (h0 : 0 ≤ x) (h1 : x < n) (hN : C 2 7 ≤ 12) : 0 ≤ C 4 x ∧ (C 4 x < C 2 7 ∨ C 4 x = 100 ∨ C 4 x = 101) := by
  rcases h.1 x h0 h1 with ⟨h2, _⟩ | ⟨h2, _⟩ <;> omega
theorem vC_eq {C : Mem} {n x : Int} (h : TB C n) (h0 : 0 ≤ x) (h1 : x < n) : vC C x = nd (C 4 x).toNat (vC C (C 5 x)) (vC C (C 6 x)) := tvl_eq h.wf h0 h1
theorem vC_neg {C : Mem} {x : Int} (h : x < 0) : vC C x = nl := tvl_neg h
theorem vC_inj {C : Mem} {n x y : Int} (h : TB C n) (hN : C 2 7 ≤ 12) (hx : x < n) (hy : y < n) (h1 : x < 0 → x = -9) (h2 : y < 0 → y = -9) (he : vC C x = vC C y) : x = y :=
  tvl_inj h.wf (fun x a b => (h.fr a b hN).1) (fun x a b => h.part a b) h.2 (x.toNat + 1) x y (by omega) hx hy h1 h2 he
/-- tables that agree have the same trees -/
theorem vC_ext {C C' : Mem} {n x : Int} (h : TB C n) (he : ∀ x, 0 ≤ x → x < n → C' 4 x = C 4 x ∧ C' 5 x = C 5 x ∧ C' 6 x = C 6 x) (hx : x < n) : vC C' x = vC C x := tvl_ext h.wf he hx
/-! the class's small methods -/
section H
variable {M : Mem} {Q : Int → Mem → Prop} {x y : Int}
theorem h_has1 (h : 0 ≤ x ∧ x < M 2 7) (q : Q 1 M) : w_X1_has M x Q := ⟨fun _ => by omega, fun _ => ⟨fun _ => by omega, fun _ => q⟩⟩
theorem h_has0 (h : ¬ (0 ≤ x ∧ x < M 2 7)) (q : Q 0 M) : w_X1_has M x Q := ⟨fun _ => q, fun _ => ⟨fun _ => q, fun _ => by omega⟩⟩
theorem h_made1 (h : 0 ≤ x ∧ x < M 1 8) (q : Q 1 M) : w_X2_wasMade M x Q := ⟨fun _ => by omega, fun _ => ⟨fun _ => by omega, fun _ => q⟩⟩
theorem h_made0 (h : ¬ (0 ≤ x ∧ x < M 1 8)) (q : Q 0 M) : w_X2_wasMade M x Q := ⟨fun _ => q, fun _ => ⟨fun _ => q, fun _ => by omega⟩⟩
theorem h_held1 (h : 0 ≤ x ∧ x < M 1 9) (q : Q 1 M) : w_X2_isHeld M x Q := ⟨fun _ => by omega, fun _ => ⟨fun _ => by omega, fun _ => q⟩⟩
theorem h_held0 (h : ¬ (0 ≤ x ∧ x < M 1 9)) (q : Q 0 M) : w_X2_isHeld M x Q := ⟨fun _ => q, fun _ => ⟨fun _ => q, fun _ => by omega⟩⟩
theorem h_def (h12 : M 2 7 ≤ 12) (h : 0 ≤ x ∧ x < M 2 7) (q : Q (M 13 x) M) : w_X1_definitionOf M x Q := h_has1 h ⟨fun e => absurd e (by decide), fun _ => ⟨by omega, q⟩⟩
theorem h_ar (h12 : M 2 7 ≤ 12) (h : 0 ≤ x ∧ x < M 2 7) (q : Q (M 12 x) M) : w_X1_arityOf M x Q := h_has1 h ⟨fun e => absurd e (by decide), fun _ => ⟨by omega, q⟩⟩
theorem h_hgt (h12 : M 2 7 ≤ 12) (h : 0 ≤ x ∧ x < M 2 7) (q : Q (M 15 x) M) : w_X1_heightOf M x Q := h_has1 h ⟨fun e => absurd e (by decide), fun _ => ⟨by omega, q⟩⟩
theorem h_opq (h12 : M 2 7 ≤ 12) (h : 0 ≤ x ∧ x < M 2 7) (q0 : M 14 x = 0 → Q 0 M) (q1 : M 14 x ≠ 0 → Q 1 M) : w_X1_isOpaque M x Q := h_has1 h ⟨fun e => absurd e (by decide), fun _ => ⟨by omega, q0, q1⟩⟩
theorem h_fold (h12 : M 2 7 ≤ 12) (h : 0 ≤ x ∧ x < M 2 7) (q0 : ¬ fold M x → Q 0 M) (q1 : fold M x → Q 1 M) : w_X1_isFolded M x Q :=
  h_def h12 h ⟨fun e => q0 (fun f => f.1 e), fun e => h_opq h12 h (fun o => ⟨fun z => absurd rfl z, fun _ => q1 ⟨e, o⟩⟩) (fun o => ⟨fun _ => q0 (fun f => o f.2), fun z => absurd z (by decide)⟩)⟩
theorem h_fold0 (h : ¬ (0 ≤ x ∧ x < M 2 7)) (q0 : Q 0 M) : w_X1_isFolded M x Q :=
  by
    unfold w_X1_isFolded w_X1_definitionOf
    exact h_has0 h ⟨fun _ => ⟨fun _ => q0, fun z => absurd rfl z⟩, fun z => absurd rfl z⟩
theorem h_front (h3 : M 1 9 ≤ 370) (h : 0 ≤ x ∧ x < M 1 9) (q : Q (M 4 x) M) : w_X2_frontOf M x Q := h_held1 h ⟨fun e => absurd e (by decide), fun _ => ⟨by omega, q⟩⟩
theorem h_part (h3 : M 1 9 ≤ 370) (h : 0 ≤ x ∧ x < M 1 9) (q0 : y = 0 → Q (M 5 x) M) (q1 : y ≠ 0 → Q (M 6 x) M) : w_X2_partOf M x y Q := h_held1 h ⟨fun _ => ⟨fun e => ⟨by omega, q1 e⟩, fun e => ⟨by omega, q0 e⟩⟩, fun e => absurd e (by decide)⟩
theorem h_part0 (h3 : M 1 9 ≤ 370) (h : 0 ≤ x ∧ x < M 1 9) (q : Q (M 5 x) M) : w_X2_partOf M x 0 Q := h_part h3 h (fun _ => q) (fun e => absurd rfl e)
theorem h_part1 (h3 : M 1 9 ≤ 370) (h : 0 ≤ x ∧ x < M 1 9) (q : Q (M 6 x) M) : w_X2_partOf M x 1 Q := h_part h3 h (fun e => absurd e (by decide)) (fun _ => q)
theorem h_partN (h : ¬ (0 ≤ x ∧ x < M 1 9)) (q : Q (-9) M) : w_X2_partOf M x y Q := h_held0 h ⟨fun e => absurd rfl e, fun _ => q⟩
/-- what is told of terms that were made, and of none -/
theorem h_dep (h9 : M 1 8 ≤ 90) (q1 : 0 ≤ x ∧ x < M 1 8 → Q (M 7 x) M) (q0 : ¬ (0 ≤ x ∧ x < M 1 8) → Q 0 M) : w_X2_depthOf M x Q := by
  by_cases h : 0 ≤ x ∧ x < M 1 8
  · exact h_made1 h ⟨fun e => absurd e (by decide), fun _ => ⟨by omega, q1 h⟩⟩
  · exact h_made0 h ⟨fun _ => q0 h, fun e => absurd rfl e⟩
theorem h_siz (h9 : M 1 8 ≤ 90) (q1 : 0 ≤ x ∧ x < M 1 8 → Q (M 8 x) M) (q0 : ¬ (0 ≤ x ∧ x < M 1 8) → Q 0 M) : w_X2_sizeOf M x Q := by
  by_cases h : 0 ≤ x ∧ x < M 1 8
  · exact h_made1 h ⟨fun e => absurd e (by decide), fun _ => ⟨by omega, q1 h⟩⟩
  · exact h_made0 h ⟨fun _ => q0 h, fun e => absurd rfl e⟩
theorem h_nin (h9 : M 1 8 ≤ 90) (q1 : 0 ≤ x ∧ x < M 1 8 → Q (M 9 x) M) (q0 : ¬ (0 ≤ x ∧ x < M 1 8) → Q 0 M) : w_X2_namesIn M x Q := by
  by_cases h : 0 ≤ x ∧ x < M 1 8
  · exact h_made1 h ⟨fun e => absurd e (by decide), fun _ => ⟨by omega, q1 h⟩⟩
  · exact h_made0 h ⟨fun _ => q0 h, fun e => absurd rfl e⟩
theorem h_tp0 (h9 : M 1 8 ≤ 90) (q1 : 0 ≤ x ∧ x < M 1 8 → Q (M 10 x) M) (q0 : ¬ (0 ≤ x ∧ x < M 1 8) → Q 0 M) : w_X2_timesOfParameter M x 0 Q := by
  by_cases h : 0 ≤ x ∧ x < M 1 8
  · exact h_made1 h ⟨fun _ => ⟨fun e => absurd rfl e, fun _ => ⟨by omega, q1 h⟩⟩, fun e => absurd e (by decide)⟩
  · exact h_made0 h ⟨fun e => absurd rfl e, fun _ => q0 h⟩
theorem h_tp1 (h9 : M 1 8 ≤ 90) (hy : y ≠ 0) (q1 : 0 ≤ x ∧ x < M 1 8 → Q (M 11 x) M) (q0 : ¬ (0 ≤ x ∧ x < M 1 8) → Q 0 M) : w_X2_timesOfParameter M x y Q := by
  by_cases h : 0 ≤ x ∧ x < M 1 8
  · exact h_made1 h ⟨fun _ => ⟨fun _ => ⟨by omega, q1 h⟩, fun e => absurd e hy⟩, fun e => absurd e (by decide)⟩
  · exact h_made0 h ⟨fun e => absurd rfl e, fun _ => q0 h⟩
end H
