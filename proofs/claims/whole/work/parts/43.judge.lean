/-! the class: verdicts, two bits each -/
theorem us_ok : ∀ i : Nat, i < 32 → ((Int32.ofInt ((2 * i : Nat) : Int)).toInt64.toUInt64 &&& Int64.toUInt64 63).toNat = 2 * i := by decide
theorem ls_ok : ∀ i : Nat, i < 32 → (((Int32.ofInt ((2 * i : Nat) : Int)).toInt64 &&& 63).toBitVec.smod 64).toNat = 2 * i := by decide
def wN (w : Int) : Nat := (Int64.ofInt w).toBitVec.toNat
theorem wN_lt (w : Int) : wN w < 2 ^ 64 := (Int64.ofInt w).toBitVec.isLt
/-- the two bits at place i -/
def gb (w : Int) (s : Int) : Int := band (bl2i (lbushr w s)) 3
theorem gb_N (w : Int) {i : Nat} (hi : i < 32) : gb w ((2 * i : Nat) : Int) = ((wN w / 2 ^ (2 * i) % 4 : Nat) : Int) := by
  unfold gb band bl2i lbushr
  rw [Int64.ofInt_toInt, Int32.ofInt_toInt]
  have hd : wN w / 2 ^ (2 * i) < 2 ^ 64 := Nat.lt_of_le_of_lt (Nat.div_le_self _ _) (wN_lt w)
  have h1 : ((Int64.ofInt w).toUInt64 >>> ((Int32.ofInt ((2 * i : Nat) : Int)).toInt64.toUInt64 &&& Int64.toUInt64 63)).toInt64.toBitVec.toNat = wN w / 2 ^ (2 * i) := by
    rw [UInt64.toBitVec_toInt64, UInt64.toNat_toBitVec, UInt64.toNat_shiftRight, us_ok i hi, Nat.mod_eq_of_lt (by omega : 2 * i < 64), Nat.shiftRight_eq_div_pow]
    rfl
  have h2 : (((Int64.ofInt w).toUInt64 >>> ((Int32.ofInt ((2 * i : Nat) : Int)).toInt64.toUInt64 &&& Int64.toUInt64 63)).toInt64.toInt32 &&& Int32.ofInt 3).toBitVec.toNat = wN w / 2 ^ (2 * i) % 4 := by
    rw [Int32.toBitVec_and, BitVec.toNat_and, Int64.toBitVec_toInt32, BitVec.signExtend_eq_setWidth_of_le _ (by decide), BitVec.toNat_setWidth, h1]
    show (wN w / 2 ^ (2 * i) % 2 ^ 32) &&& (2 ^ 2 - 1) = _
    rw [Nat.and_two_pow_sub_one_eq_mod]
    omega
  exact i32T (by omega) h2
theorem bits4 (m k : Nat) : m / 2 ^ k % 4 = (if m.testBit k = true then 1 else 0) + (if m.testBit (k + 1) = true then 2 else 0) := by
  rw [Nat.testBit_eq_decide_div_mod_eq, Nat.testBit_eq_decide_div_mod_eq]
  simp only [decide_eq_true_eq]
  rw [Nat.pow_succ, ← Nat.div_div_eq_div_mul]
  generalize m / 2 ^ k = q
  split <;> split <;> omega
theorem set_N (w : Int) {v i : Nat} (hv : v = 1 ∨ v = 2) (hi : i < 32) : wN (lbor w (lbshl (v : Int) ((2 * i : Nat) : Int))) = wN w ||| 2 ^ (2 * i + (v - 1)) := by
  unfold wN lbor lbshl
  rw [Int64.ofInt_toInt, Int64.ofInt_toInt, Int64.toBitVec_or, BitVec.toNat_or]
  congr 1
  have h1 : (Int64.ofInt (v : Int) <<< ((Int32.ofInt ((2 * i : Nat) : Int)).toInt64 &&& 63)).toBitVec = (Int64.ofInt (v : Int)).toBitVec <<< (((Int32.ofInt ((2 * i : Nat) : Int)).toInt64 &&& 63).toBitVec.smod 64) := rfl
  rw [h1, BitVec.shiftLeft_eq', ls_ok i hi, BitVec.toNat_shiftLeft]
  have h2 : (Int64.ofInt (v : Int)).toBitVec.toNat = v := by rcases hv with e | e <;> subst e <;> rfl
  rw [h2, Nat.shiftLeft_eq]
  have hp : 2 ^ (2 * i + (v - 1)) < 2 ^ 64 := Nat.pow_lt_pow_right (by decide) (by omega)
  have e : v * 2 ^ (2 * i) = 2 ^ (2 * i + (v - 1)) := by
    rcases hv with e | e
    · subst e
      simp
    · subst e
      rw [Nat.pow_add]
      simp [Nat.mul_comm]
  rw [e]
  exact Nat.mod_eq_of_lt hp
theorem gb_same (w : Int) {v i : Nat} (hv : v = 1 ∨ v = 2) (hi : i < 32) (h0 : gb w ((2 * i : Nat) : Int) = 0) : gb (lbor w (lbshl (v : Int) ((2 * i : Nat) : Int))) ((2 * i : Nat) : Int) = (v : Int) := by
  rw [gb_N _ hi, bits4] at h0
  rw [gb_N _ hi, set_N w hv hi, bits4, Nat.testBit_or, Nat.testBit_or, Nat.testBit_two_pow, Nat.testBit_two_pow]
  have b0 : (wN w).testBit (2 * i) = false := by
    cases h : (wN w).testBit (2 * i) with
    | false => rfl
    | true => rw [h] at h0; simp at h0; omega
  have b1 : (wN w).testBit (2 * i + 1) = false := by
    cases h : (wN w).testBit (2 * i + 1) with
    | false => rfl
    | true => rw [h] at h0; simp at h0; omega
  rw [b0, b1]
  rcases hv with e | e
  · subst e
    simp
  · subst e
    simp
theorem gb_other (w : Int) {v i i' : Nat} (hv : v = 1 ∨ v = 2) (hi : i < 32) (hi' : i' < 32) (hne : i ≠ i') : gb (lbor w (lbshl (v : Int) ((2 * i : Nat) : Int))) ((2 * i' : Nat) : Int) = gb w ((2 * i' : Nat) : Int) := by
  rw [gb_N _ hi', gb_N _ hi', set_N w hv hi, bits4, bits4, Nat.testBit_or, Nat.testBit_or, Nat.testBit_two_pow, Nat.testBit_two_pow]
  have e1 : decide (2 * i + (v - 1) = 2 * i') = false := by
    rw [decide_eq_false_iff_not]
    omega
  have e2 : decide (2 * i + (v - 1) = 2 * i' + 1) = false := by
    rw [decide_eq_false_iff_not]
    omega
  rw [e1, e2, Bool.or_false, Bool.or_false]
theorem gb_zero {i : Nat} (hi : i < 32) : gb 0 ((2 * i : Nat) : Int) = 0 := by
  rw [gb_N _ hi]
  have : wN 0 = 0 := rfl
  rw [this]
  simp
theorem gb_rng (w : Int) {i : Nat} (hi : i < 32) : 0 ≤ gb w ((2 * i : Nat) : Int) ∧ gb w ((2 * i : Nat) : Int) ≤ 3 := by
  rw [gb_N _ hi]
  have : wN w / 2 ^ (2 * i) % 4 < 4 := Nat.mod_lt _ (by decide)
  omega
/-- the verdict on a pair of held terms: 0: none yet; else 1 more than it -/
def jv (M : Mem) (x y : Int) : Int := gb (M 22 (x * 12 + y / 32)) (y % 32 * 2)
section H
variable {M : Mem} {x y : Int}
theorem jv_i (hy : 0 ≤ y) : y % 32 * 2 = ((2 * (y % 32).toNat : Nat) : Int) ∧ (y % 32).toNat < 32 := by omega
theorem h_judgment {Q : Int → Mem → Prop} (h3 : M 1 9 ≤ 370) (hx : 0 ≤ x ∧ x < M 1 9) (hy : 0 ≤ y ∧ y < M 1 9) (q0 : jv M x y = 0 → Q 2 M) (q1 : jv M x y ≠ 0 → Q (jv M x y - 1) M) : w_X0_judgment M x y Q := by
  have e1 : Int.tdiv y 32 = y / 32 := Int.tdiv_eq_ediv_of_nonneg hy.1
  have e2 : Int.tmod y 32 = y % 32 := Int.tmod_eq_emod_of_nonneg hy.1
  obtain ⟨i1, i2⟩ := jv_i hy.1
  have hr := gb_rng (M 22 (x * 12 + y / 32)) i2
  rw [← i1] at hr
  refine h_held1 hx ⟨fun e => absurd e (by decide), fun _ => h_held1 hy ⟨fun _ => ?_, fun e => absurd e (by decide)⟩⟩
  unfold w_X0_wordOf
  rw [e1]
  refine ⟨by unfold rg; omega, by unfold rg; omega, by unfold rg; omega, by omega, ?_⟩
  unfold w_X0_shiftOf
  rw [e2]
  refine ⟨by unfold rg; omega, by unfold rg; omega, fun z => ⟨?_, q1 z⟩, fun z => q0 z⟩
  show rg (gb (M 22 (x * 12 + y / 32)) (y % 32 * 2) - 1)
  unfold rg
  omega
theorem h_judge {Q : Mem → Prop} {v : Int} (h3 : M 1 9 ≤ 370) (hx : 0 ≤ x ∧ x < M 1 9) (hy : 0 ≤ y ∧ y < M 1 9) (hv : v = 0 ∨ v = 1) (h0 : jv M x y = 0)
    (q : ∀ M', (∀ c : Nat, c ≠ 22 → M' c = M c) → jv M' x y = v + 1 → (∀ a b, 0 ≤ a → a < 370 → 0 ≤ b → b < 370 → ¬ (a = x ∧ b = y) → jv M' a b = jv M a b) → Q M') : w_X0_judge M x y v Q := by
  have e1 : Int.tdiv y 32 = y / 32 := Int.tdiv_eq_ediv_of_nonneg hy.1
  have e2 : Int.tmod y 32 = y % 32 := Int.tmod_eq_emod_of_nonneg hy.1
  obtain ⟨i1, i2⟩ := jv_i hy.1
  refine h_held1 hx ⟨fun e => absurd e (by decide), fun _ => h_held1 hy ⟨fun _ => ?_, fun e => absurd e (by decide)⟩⟩
  unfold w_X0_wordOf
  rw [e1]
  refine ⟨by unfold rg; omega, by unfold rg; omega, by unfold rg; omega, by omega, by unfold rl; omega, ?_⟩
  unfold w_X0_shiftOf
  rw [e2]
  refine ⟨by unfold rg; omega, by unfold rg; omega, by omega, ?_⟩
  have hvn : (v + 1).toNat = 1 ∨ (v + 1).toNat = 2 := by omega
  have ev : v + 1 = (((v + 1).toNat : Nat) : Int) := by omega
  apply q
  · exact fun c hc => up_off hc
  · unfold jv at h0 ⊢
    rw [up_at]
    simp only [if_true]
    rw [i1] at h0 ⊢
    rw [ev]
    exact gb_same _ hvn i2 h0
  · intro a b a0 a1 b0 b1 hne
    obtain ⟨j1, j2⟩ := jv_i b0
    unfold jv
    rw [up_at]
    show gb (if a * 12 + b / 32 = x * 12 + y / 32 then _ else M 22 (a * 12 + b / 32)) (b % 32 * 2) = _
    by_cases c : a * 12 + b / 32 = x * 12 + y / 32
    · rw [if_pos c, ← c, j1, i1, ev]
      exact gb_other _ hvn i2 j2 (by omega)
    · rw [if_neg c]
end H
