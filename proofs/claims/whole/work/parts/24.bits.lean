/-! the bits of the names in a term -/
def mkN : Tr → Nat
  | .op (.var f) (.op a b) => (mkN a ||| mkN b) ||| (if 100 ≤ f then 0 else 2 ^ f)
  | _ => 0
theorem mkN_nd (f : Nat) (a b : Tr) : mkN (nd f a b) = (mkN a ||| mkN b) ||| (if 100 ≤ f then 0 else 2 ^ f) := by
  unfold nd
  rw [mkN]
theorem tr_leaf {β : Type} (g : Tr → β) (z : β) (h1 : ∀ n, g (.var n) = z) (h2 : ∀ a b c, g (.op (.op a b) c) = z) (h3 : ∀ a b, g (.op (.var a) (.var b)) = z) (t : Tr) (hn : ∀ f a b, t ≠ nd f a b) : g t = z := by
  match t, hn with
  | .op (.var f) (.op a b), hn => exact absurd rfl (hn f a b)
  | .var n, _ => exact h1 n
  | .op (.op a b) c, _ => exact h2 a b c
  | .op (.var a) (.var b), _ => exact h3 a b
theorem mkN_bit (t : Tr) : ∀ n, n < 100 → ((mkN t).testBit n = true ↔ 0 < occ n t) := by
  refine tr_ind (P := fun t => ∀ n, n < 100 → ((mkN t).testBit n = true ↔ 0 < occ n t)) ?_ ?_ t
  · intro t hn n _
    rw [tr_leaf mkN 0 (fun _ => rfl) (fun _ _ _ => rfl) (fun _ _ => rfl) t hn, tr_leaf (occ n) 0 (fun _ => rfl) (fun _ _ _ => rfl) (fun _ _ => rfl) t hn]
    simp
  · intro f a b ha hb n hn
    rw [mkN_nd, occ_nd, Nat.testBit_or, Nat.testBit_or, Bool.or_eq_true, Bool.or_eq_true, ha n hn, hb n hn]
    have na := occ_nn n a
    have nb := occ_nn n b
    by_cases h : 100 ≤ f
    · rw [if_pos h, if_neg (by omega)]
      simp only [Nat.zero_testBit, Bool.false_eq_true, or_false]
      omega
    · rw [if_neg h, Nat.testBit_two_pow]
      by_cases e : f = n
      · rw [if_pos e]
        simp only [e, decide_true, or_true, true_iff]
        omega
      · rw [if_neg e]
        simp only [e, decide_false, Bool.false_eq_true, or_false]
        omega
theorem mkN_lt (t : Tr) : allF (fun f => f < 12 ∨ 100 ≤ f) t → mkN t < 2 ^ 12 := by
  refine tr_ind (P := fun t => allF (fun f => f < 12 ∨ 100 ≤ f) t → mkN t < 2 ^ 12) ?_ ?_ t
  · intro t hn _
    rw [tr_leaf mkN 0 (fun _ => rfl) (fun _ _ _ => rfl) (fun _ _ => rfl) t hn]
    decide
  · intro f a b ha hb h
    rw [allF_nd] at h
    rw [mkN_nd]
    refine Nat.or_lt_two_pow (Nat.or_lt_two_pow (ha h.2.1) (hb h.2.2)) ?_
    by_cases e : 100 ≤ f
    · rw [if_pos e]
      decide
    · rw [if_neg e]
      exact Nat.pow_lt_pow_right (by decide) (by omega)
theorem i32N {n : Nat} (h : n < 2 ^ 31) : (Int32.ofInt (n : Int)).toBitVec.toNat = n := by
  rw [Int32.toBitVec_ofInt, BitVec.ofInt_natCast, BitVec.toNat_ofNat]
  exact Nat.mod_eq_of_lt (by omega)
theorem i32T {x : Int32} {n : Nat} (h : n < 2 ^ 31) (hx : x.toBitVec.toNat = n) : x.toInt = (n : Int) := by
  have : x = Int32.ofInt (n : Int) := Int32.toBitVec_inj.mp (BitVec.eq_of_toNat_eq (by rw [hx, i32N h]))
  rw [this]
  exact Int32.toInt_ofInt_of_le (by omega) (by omega)
theorem bor_N {a b : Nat} (ha : a < 2 ^ 31) (hb : b < 2 ^ 31) : bor (a : Int) (b : Int) = ((a ||| b : Nat) : Int) := by
  unfold bor
  refine i32T (Nat.or_lt_two_pow ha hb) ?_
  rw [Int32.toBitVec_or, BitVec.toNat_or, i32N ha, i32N hb]
theorem bshl_1 : ∀ f : Nat, f < 12 → bshl 1 (f : Int) = ((2 ^ f : Nat) : Int) := by decide
theorem msk_N (t : Tr) : allF (fun f => f < 12 ∨ 100 ≤ f) t → msk t = (mkN t : Int) := by
  refine tr_ind (P := fun t => allF (fun f => f < 12 ∨ 100 ≤ f) t → msk t = (mkN t : Int)) ?_ ?_ t
  · intro t hn _
    rw [tr_leaf mkN 0 (fun _ => rfl) (fun _ _ _ => rfl) (fun _ _ => rfl) t hn, tr_leaf msk 0 (fun _ => rfl) (fun _ _ _ => rfl) (fun _ _ => rfl) t hn]
    rfl
  · intro f a b ha hb h
    rw [allF_nd] at h
    have la := mkN_lt a h.2.1
    have lb := mkN_lt b h.2.2
    have lab := Nat.or_lt_two_pow la lb
    rw [mkN_nd, msk_nd, ha h.2.1, hb h.2.2, bor_N (by omega) (by omega)]
    by_cases e : 100 ≤ f
    · rw [if_pos e, if_pos e]
      exact bor_N (b := 0) (by omega) (by decide)
    · rw [if_neg e, if_neg e, bshl_1 f (by omega)]
      have : 2 ^ f < 2 ^ 12 := Nat.pow_lt_pow_right (by decide) (by omega)
      exact bor_N (by omega) (by omega)
theorem sh_ok : ∀ n : Nat, n < 12 → (((Int32.ofInt (n : Int)) &&& 31).toBitVec.smod 32).toNat = n := by decide
theorem bit_at {m n : Nat} (hm : m < 2 ^ 31) (hn : n < 12) : band (bshr (m : Int) (n : Int)) 1 = ((m / 2 ^ n % 2 : Nat) : Int) := by
  have h1 : Int32.ofInt (m : Int) >>> (Int32.ofInt (n : Int) &&& 31) = nI (m / 2 ^ n) := by
    rw [show Int32.ofInt (m : Int) = nI m from Int32.ofInt_eq_ofNat]
    exact pk_shrN hm _ n (sh_ok n hn)
  unfold band bshr
  rw [h1, Int32.ofInt_toInt]
  have h2 : nI (m / 2 ^ n) &&& Int32.ofInt 1 = nI (m / 2 ^ n % 2 ^ 1) := pk_andN (Nat.lt_of_le_of_lt (Nat.div_le_self _ _) (by omega)) 1 (by decide)
  rw [h2]
  have h3 : m / 2 ^ n % 2 < 2 := Nat.mod_lt _ (by decide)
  exact nI_toInt (by omega)
theorem bit_iff {t : Tr} {n : Nat} (ht : allF (fun f => f < 12 ∨ 100 ≤ f) t) (hn : n < 12) : band (bshr (msk t) (n : Int)) 1 = 1 ↔ 0 < occ n t := by
  have hl := mkN_lt t ht
  rw [msk_N t ht, bit_at (by omega) hn, ← mkN_bit t n (by omega), Nat.testBit_eq_decide_div_mod_eq, decide_eq_true_eq]
  omega
theorem msh : ∀ n : Nat, n < 12 → (Int32.ofInt (bshl (-1) (n : Int))).toBitVec.toNat = 2 ^ 32 - 2 ^ n := by decide
theorem above_iff {t : Tr} {n : Nat} (ht : allF (fun f => f < 12 ∨ 100 ≤ f) t) (hn : n < 12) : band (msk t) (bshl (-1) (n : Int)) = 0 ↔ ∀ f : Nat, n ≤ f → f < 12 → ¬ 0 < occ f t := by
  have hl := mkN_lt t ht
  rw [msk_N t ht]
  have e0 : (Int32.ofInt (mkN t : Int) &&& Int32.ofInt (bshl (-1) (n : Int))).toBitVec.toNat = mkN t &&& (2 ^ 32 - 2 ^ n) := by
    rw [Int32.toBitVec_and, BitVec.toNat_and, i32N (by omega), msh n hn]
  have hb : mkN t &&& (2 ^ 32 - 2 ^ n) < 2 ^ 31 := Nat.lt_of_le_of_lt Nat.and_le_left (by omega)
  have e1 : band (mkN t : Int) (bshl (-1) (n : Int)) = ((mkN t &&& (2 ^ 32 - 2 ^ n) : Nat) : Int) := i32T hb e0
  rw [e1]
  have tb : ∀ i, (2 ^ 32 - 2 ^ n).testBit i = (decide (i < 32) && !decide (i < n)) := fun i => by
    have h1 : 2 ^ 32 - 2 ^ n = 2 ^ 32 - ((2 ^ n - 1) + 1) := by
      have : 0 < 2 ^ n := Nat.pow_pos (by decide)
      omega
    have h2 : 2 ^ n - 1 < 2 ^ 32 := by
      have : 2 ^ n < 2 ^ 12 := Nat.pow_lt_pow_right (by decide) hn
      omega
    rw [h1, Nat.testBit_two_pow_sub_succ h2, Nat.testBit_two_pow_sub_one]
  constructor
  · intro h f h1 h2 h3
    have h4 : mkN t &&& (2 ^ 32 - 2 ^ n) = 0 := by omega
    have h5 : (mkN t &&& (2 ^ 32 - 2 ^ n)).testBit f = true := by
      rw [Nat.testBit_and, tb, (mkN_bit t f (by omega)).mpr h3]
      simp
      omega
    rw [h4] at h5
    simp at h5
  · intro h
    have h4 : mkN t &&& (2 ^ 32 - 2 ^ n) = 0 := by
      apply Nat.eq_of_testBit_eq
      intro i
      rw [Nat.testBit_and, tb, Nat.zero_testBit]
      by_cases h1 : i < n
      · simp [h1]
      · by_cases h2 : i < 12
        · have h3 := h i (by omega) h2
          rw [← mkN_bit t i (by omega)] at h3
          simp [Bool.eq_false_iff.mpr h3]
        · have : (mkN t).testBit i = false := Nat.testBit_lt_two_pow (Nat.lt_of_lt_of_le hl (Nat.pow_le_pow_right (by decide) (by omega)))
          simp [this]
    omega
