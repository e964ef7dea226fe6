/-! trees: a front and two parts (a part that isn't there is nl) -/
abbrev Tr : Type := Lean.Data.AC.Expr
def nd (f : Nat) (a b : Tr) : Tr := .op (.var f) (.op a b)
def nl : Tr := .var 0
theorem nd_ne_nl {f : Nat} {a b : Tr} : nd f a b ≠ nl := by
  intro h
  cases h
theorem nd_inj {f g : Nat} {a b c d : Tr} (h : nd f a b = nd g c d) : f = g ∧ a = c ∧ b = d := by
  unfold nd at h
  injection h with h1 h2
  injection h1 with h1
  injection h2 with h2 h3
  exact ⟨h1, h2, h3⟩
theorem tr_ind {P : Tr → Prop} (h0 : ∀ t, (∀ f a b, t ≠ nd f a b) → P t) (h1 : ∀ f a b, P a → P b → P (nd f a b)) : ∀ t, P t
  | .op (.var f) (.op a b) => h1 f a b (tr_ind h0 h1 a) (tr_ind h0 h1 b)
  | .var _ => h0 _ (fun _ _ _ h => by cases h)
  | .op (.op _ _) _ => h0 _ (fun _ _ _ h => by cases h)
  | .op (.var _) (.var _) => h0 _ (fun _ _ _ h => by cases h)
def dep : Tr → Int
  | .op (.var _) (.op a b) => 1 + (if dep a < dep b then dep b else dep a)
  | _ => 0
theorem dep_nd (f : Nat) (a b : Tr) : dep (nd f a b) = 1 + (if dep a < dep b then dep b else dep a) := by
  unfold nd
  rw [dep]
theorem dep_nl : dep nl = 0 := rfl
def siz : Tr → Int
  | .op (.var _) (.op a b) => 1 + siz a + siz b
  | _ => 0
theorem siz_nd (f : Nat) (a b : Tr) : siz (nd f a b) = 1 + siz a + siz b := by
  unfold nd
  rw [siz]
theorem siz_nl : siz nl = 0 := rfl
/-- how often the front p is in it -/
def occ (p : Nat) : Tr → Int
  | .op (.var f) (.op a b) => occ p a + occ p b + (if f = p then 1 else 0)
  | _ => 0
theorem occ_nd (p f : Nat) (a b : Tr) : occ p (nd f a b) = occ p a + occ p b + (if f = p then 1 else 0) := by
  unfold nd
  rw [occ]
theorem occ_nl (p : Nat) : occ p nl = 0 := rfl
/-- every front is so -/
def allF (P : Nat → Prop) : Tr → Prop
  | .op (.var f) (.op a b) => P f ∧ allF P a ∧ allF P b
  | _ => True
theorem allF_nd (P : Nat → Prop) (f : Nat) (a b : Tr) : allF P (nd f a b) ↔ P f ∧ allF P a ∧ allF P b := by
  unfold nd
  rw [allF]
theorem allF_nl (P : Nat → Prop) : allF P nl := trivial
/-- with a, b in place of the parameters -/
def sub (x y : Tr) : Tr → Tr
  | .op (.var f) (.op a b) => if f = 100 then x else if f = 101 then y else nd f (sub x y a) (sub x y b)
  | t => t
theorem sub_nd (x y : Tr) (f : Nat) (a b : Tr) : sub x y (nd f a b) = if f = 100 then x else if f = 101 then y else nd f (sub x y a) (sub x y b) := by
  show sub x y (.op (.var f) (.op a b)) = _
  rw [sub]
theorem sub_nl (x y : Tr) : sub x y nl = nl := rfl
theorem dep_nn (t : Tr) : 0 ≤ dep t := by
  refine tr_ind (P := fun t => 0 ≤ dep t) ?_ ?_ t
  · intro t h
    match t, h with
    | .op (.var f) (.op a b), h => exact absurd rfl (h f a b)
    | .var _, _ => exact Int.le_refl _
    | .op (.op _ _) _, _ => exact Int.le_refl _
    | .op (.var _) (.var _), _ => exact Int.le_refl _
  · intro f a b ha hb
    rw [dep_nd]
    split <;> omega
theorem siz_nn (t : Tr) : 0 ≤ siz t := by
  refine tr_ind (P := fun t => 0 ≤ siz t) ?_ ?_ t
  · intro t h
    match t, h with
    | .op (.var f) (.op a b), h => exact absurd rfl (h f a b)
    | .var _, _ => exact Int.le_refl _
    | .op (.op _ _) _, _ => exact Int.le_refl _
    | .op (.var _) (.var _), _ => exact Int.le_refl _
  · intro f a b ha hb
    rw [siz_nd]
    omega
theorem occ_nn (p : Nat) (t : Tr) : 0 ≤ occ p t := by
  refine tr_ind (P := fun t => 0 ≤ occ p t) ?_ ?_ t
  · intro t h
    match t, h with
    | .op (.var f) (.op a b), h => exact absurd rfl (h f a b)
    | .var _, _ => exact Int.le_refl _
    | .op (.op _ _) _, _ => exact Int.le_refl _
    | .op (.var _) (.var _), _ => exact Int.le_refl _
  · intro f a b ha hb
    rw [occ_nd]
    split <;> omega
theorem allF_mono {P R : Nat → Prop} (h : ∀ f, P f → R f) (t : Tr) : allF P t → allF R t := by
  refine tr_ind (P := fun t => allF P t → allF R t) ?_ ?_ t
  · intro t hn _
    match t, hn with
    | .op (.var f) (.op a b), hn => exact absurd rfl (hn f a b)
    | .var _, _ => trivial
    | .op (.op _ _) _, _ => trivial
    | .op (.var _) (.var _), _ => trivial
  · intro f a b ha hb hp
    rw [allF_nd] at hp ⊢
    exact ⟨h f hp.1, ha hp.2.1, hb hp.2.2⟩
theorem occ_pos_all {P : Nat → Prop} {p : Nat} (t : Tr) : allF P t → 0 < occ p t → P p := by
  refine tr_ind (P := fun t => allF P t → 0 < occ p t → P p) ?_ ?_ t
  · intro t hn _ h
    match t, hn with
    | .op (.var f) (.op a b), hn => exact absurd rfl (hn f a b)
    | .var _, _ => exact absurd h (Int.lt_irrefl 0)
    | .op (.op _ _) _, _ => exact absurd h (Int.lt_irrefl 0)
    | .op (.var _) (.var _), _ => exact absurd h (Int.lt_irrefl 0)
  · intro f a b ha hb hp h
    rw [allF_nd] at hp
    rw [occ_nd] at h
    have := occ_nn p a
    have := occ_nn p b
    by_cases h1 : f = p
    · rw [← h1]
      exact hp.1
    · rw [if_neg h1] at h
      by_cases h2 : 0 < occ p a
      · exact ha hp.2.1 h2
      · exact hb hp.2.2 (by omega)
theorem allF_of_occ {P : Nat → Prop} (t : Tr) : (∀ p, 0 < occ p t → P p) → allF P t := by
  refine tr_ind (P := fun t => (∀ p, 0 < occ p t → P p) → allF P t) ?_ ?_ t
  · intro t hn _
    match t, hn with
    | .op (.var f) (.op a b), hn => exact absurd rfl (hn f a b)
    | .var _, _ => trivial
    | .op (.op _ _) _, _ => trivial
    | .op (.var _) (.var _), _ => trivial
  · intro f a b ha hb hp
    rw [allF_nd]
    have na := occ_nn
    refine ⟨hp f ?_, ha (fun p h => hp p ?_), hb (fun p h => hp p ?_)⟩
    · rw [occ_nd, if_pos rfl]
      have := na f a
      have := na f b
      omega
    · rw [occ_nd]
      have := na p b
      split <;> omega
    · rw [occ_nd]
      have := na p a
      split <;> omega
theorem sub_closed (x y : Tr) (t : Tr) : occ 100 t = 0 → occ 101 t = 0 → sub x y t = t := by
  refine tr_ind (P := fun t => occ 100 t = 0 → occ 101 t = 0 → sub x y t = t) ?_ ?_ t
  · intro t hn _ _
    match t, hn with
    | .op (.var f) (.op a b), hn => exact absurd rfl (hn f a b)
    | .var _, _ => rfl
    | .op (.op _ _) _, _ => rfl
    | .op (.var _) (.var _), _ => rfl
  · intro f a b ha hb h1 h2
    rw [occ_nd] at h1 h2
    have := occ_nn 100 a
    have := occ_nn 100 b
    have := occ_nn 101 a
    have := occ_nn 101 b
    rw [sub_nd]
    by_cases e1 : f = 100
    · rw [if_pos e1] at h1
      omega
    · by_cases e2 : f = 101
      · rw [if_pos e2] at h2
        omega
      · rw [if_neg e1] at h1
        rw [if_neg e2] at h2
        rw [if_neg e1, if_neg e2, ha (by omega) (by omega), hb (by omega) (by omega)]
/-! tables: the tree of a number -/
def tv (fr pa pb : Int → Int) : Nat → Int → Tr
  | 0, _ => nl
  | k + 1, x => if x < 0 then nl else nd (fr x).toNat (tv fr pa pb k (pa x)) (tv fr pa pb k (pb x))
/-- parts are numbers below -/
def twf (pa pb : Int → Int) (n : Int) : Prop := ∀ x, 0 ≤ x → x < n → pa x < x ∧ pb x < x
theorem tv_neg (fr pa pb : Int → Int) {k : Nat} {x : Int} (h : x < 0) : tv fr pa pb k x = nl := by
  cases k with
  | zero => rfl
  | succ k => rw [tv, if_pos h]
theorem tv_stab {fr pa pb fr' pa' pb' : Int → Int} {n : Int} (hw : twf pa pb n) (he : ∀ x, 0 ≤ x → x < n → fr' x = fr x ∧ pa' x = pa x ∧ pb' x = pb x) : ∀ (k k' : Nat) (x : Int), x < n → x < k → x < k' → tv fr pa pb k x = tv fr' pa' pb' k' x := by
  intro k
  induction k with
  | zero =>
    intro k' x _ h1 _
    rw [tv_neg _ _ _ (by omega), tv_neg _ _ _ (by omega)]
  | succ k ih =>
    intro k' x hn h1 h2
    by_cases h0 : x < 0
    · rw [tv_neg _ _ _ h0, tv_neg _ _ _ h0]
    · cases k' with
      | zero => omega
      | succ k' =>
        obtain ⟨e1, e2, e3⟩ := he x (by omega) hn
        have hx := hw x (by omega) hn
        rw [tv, tv, if_neg h0, if_neg h0, e1, e2, e3]
        rw [ih k' (pa x) (by omega) (by omega) (by omega), ih k' (pb x) (by omega) (by omega) (by omega)]
def tvl (fr pa pb : Int → Int) (x : Int) : Tr := tv fr pa pb (x.toNat + 1) x
theorem tvl_neg {fr pa pb : Int → Int} {x : Int} (h : x < 0) : tvl fr pa pb x = nl := tv_neg _ _ _ h
theorem tvl_eq {fr pa pb : Int → Int} {n x : Int} (hw : twf pa pb n) (h0 : 0 ≤ x) (hn : x < n) : tvl fr pa pb x = nd (fr x).toNat (tvl fr pa pb (pa x)) (tvl fr pa pb (pb x)) := by
  have hx := hw x h0 hn
  show tv fr pa pb (x.toNat + 1) x = _
  rw [tv, if_neg (by omega)]
  unfold tvl
  rw [tv_stab hw (fun _ _ _ => ⟨rfl, rfl, rfl⟩) x.toNat ((pa x).toNat + 1) (pa x) (by omega) (by omega) (by omega), tv_stab hw (fun _ _ _ => ⟨rfl, rfl, rfl⟩) x.toNat ((pb x).toNat + 1) (pb x) (by omega) (by omega) (by omega)]
theorem tvl_ext {fr pa pb fr' pa' pb' : Int → Int} {n x : Int} (hw : twf pa pb n) (he : ∀ x, 0 ≤ x → x < n → fr' x = fr x ∧ pa' x = pa x ∧ pb' x = pb x) (hn : x < n) : tvl fr' pa' pb' x = tvl fr pa pb x := by
  unfold tvl
  exact (tv_stab hw he _ _ x hn (by omega) (by omega)).symm
/-- the same tree has one number -/
theorem tvl_inj {fr pa pb : Int → Int} {n : Int} (hw : twf pa pb n) (hf : ∀ x, 0 ≤ x → x < n → 0 ≤ fr x) (hp : ∀ x, 0 ≤ x → x < n → (pa x < 0 → pa x = -9) ∧ (pb x < 0 → pb x = -9))
    (hu : ∀ x y, 0 ≤ x → x < n → 0 ≤ y → y < n → fr x = fr y → pa x = pa y → pb x = pb y → x = y) : ∀ (k : Nat) (x y : Int), x < k → x < n → y < n → (x < 0 → x = -9) → (y < 0 → y = -9) → tvl fr pa pb x = tvl fr pa pb y → x = y := by
  intro k
  induction k with
  | zero =>
    intro x y hx _ hy h1 h2 h
    by_cases h3 : y < 0
    · rw [h1 (by omega), h2 h3]
    · rw [tvl_neg (by omega : x < 0), tvl_eq hw (by omega) hy] at h
      exact absurd h.symm nd_ne_nl
  | succ k ih =>
    intro x y hk hx hy h1 h2 h
    by_cases h3 : y < 0
    · by_cases h4 : x < 0
      · rw [h1 h4, h2 h3]
      · rw [tvl_neg h3, tvl_eq hw (by omega) hx] at h
        exact absurd h nd_ne_nl
    · by_cases h4 : x < 0
      · rw [tvl_neg h4, tvl_eq hw (by omega) hy] at h
        exact absurd h.symm nd_ne_nl
      · rw [tvl_eq hw (by omega) hx, tvl_eq hw (by omega) hy] at h
        obtain ⟨e1, e2, e3⟩ := nd_inj h
        have hwx := hw x (by omega) hx
        have hwy := hw y (by omega) hy
        have fx := hf x (by omega) hx
        have fy := hf y (by omega) hy
        refine hu x y (by omega) hx (by omega) hy (by omega) (ih _ _ (by omega) (by omega) (by omega) (hp x (by omega) hx).1 (hp y (by omega) hy).1 e2) (ih _ _ (by omega) (by omega) (by omega) (hp x (by omega) hx).2 (hp y (by omega) hy).2 e3)
