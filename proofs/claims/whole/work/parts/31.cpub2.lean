/-! the class: size, front, checked, many -/
/-- how many of the first k are so -/
def cntN (p : Int → Bool) : Nat → Int
  | 0 => 0
  | k + 1 => cntN p k + (if p k = true then 1 else 0)
theorem cntN_rng (p : Int → Bool) : ∀ k : Nat, 0 ≤ cntN p k ∧ cntN p k ≤ k
  | 0 => ⟨Int.le_refl _, Int.le_refl _⟩
  | k + 1 => by
    have := cntN_rng p k
    rw [cntN]
    split <;> omega
theorem cntN_ext {p p' : Int → Bool} : ∀ k : Nat, (∀ i : Int, 0 ≤ i → i < k → p i = p' i) → cntN p k = cntN p' k
  | 0, _ => rfl
  | k + 1, h => by
    rw [cntN, cntN, cntN_ext k (fun i h0 h1 => h i h0 (by omega)), h k (by omega) (by omega)]
def fold? (C : Mem) (n : Int) : Bool := decide (C 13 n ≠ -9 ∧ C 14 n = 0)
def usz (C : Mem) (x : Int) : Int := if 100 ≤ C 4 x then 0 else if C 13 (C 4 x) ≠ -9 ∧ C 14 (C 4 x) = 0 then siz (vC C (C 13 (C 4 x))) + occ 100 (vC C (C 13 (C 4 x))) * (siz (vC C (C 5 x)) - 1) + occ 101 (vC C (C 13 (C 4 x))) * (siz (vC C (C 6 x)) - 1) else 0
section H
variable {C : Mem} {Q : Int → Mem → Prop} {n x y a b : Int}
theorem small_mul {p s : Int} (hp : 0 ≤ p ∧ p ≤ 15) (hs : 0 ≤ s ∧ s ≤ 15) : -15 ≤ p * (s - 1) ∧ p * (s - 1) ≤ 210 := by
  have h1 : p * s ≤ 15 * 15 := Int.mul_le_mul hp.2 hs.2 hs.1 (by decide)
  have h2 : 0 ≤ p * s := Int.mul_nonneg hp.1 hs.1
  rw [Int.mul_sub, Int.mul_one]
  refine ⟨by omega, ?_⟩
  by_cases e : s ≤ 1
  · have h3 : p * s ≤ p * 1 := Int.mul_le_mul_of_nonneg_left e hp.1
    omega
  · have h3 : p * (s - 1) ≤ 15 * (s - 1) := Int.mul_le_mul_of_nonneg_right hp.2 (by omega)
    rw [Int.mul_sub, Int.mul_one] at h3
    omega
theorem h_usz (hI : InvC C) (hx : made C x) (q : Q (usz C x) C) : w_X1_sizeUnfolded C x Q := by
  obtain ⟨hB, ⟨t0, t9, th⟩, hT, hTC, hNC, hb⟩ := id hI
  have h12 := hB.2.1
  have hh : 0 ≤ x ∧ x < C 1 9 := by rw [th]; exact hx
  have hf := hT.fr hx.1 hx.2 h12
  have hpt := hT.part hx.1 hx.2
  have hw := hT.wf x hx.1 hx.2
  unfold usz at q
  refine h_front (by omega) hh ?_
  by_cases h100 : 100 ≤ C 4 x
  · rw [if_pos h100] at q
    exact h_fold0 (by omega) ⟨fun z => absurd rfl z, fun _ => q⟩
  · rw [if_neg h100] at q
    have hnm : 0 ≤ C 4 x ∧ C 4 x < C 2 7 := by omega
    refine h_fold h12 hnm (fun z => ⟨fun e => absurd rfl e, fun _ => ?_⟩) (fun z => ⟨fun _ => ?_, fun e => absurd e (by decide)⟩)
    · rw [if_neg (show ¬ (C 13 (C 4 x) ≠ -9 ∧ C 14 (C 4 x) = 0) from z)] at q
      exact q
    · rw [if_pos (show C 13 (C 4 x) ≠ -9 ∧ C 14 (C 4 x) = 0 from z)] at q
      have hd : 0 ≤ C 13 (C 4 x) ∧ C 13 (C 4 x) < C 1 8 := by
        rcases (hB.2.2 _ hnm.1 hnm.2).2.2 with e | e
        · exact absurd e z.1
        · exact ⟨e.1, e.2.1⟩
      obtain ⟨d1, d2, d3, d4, d5, d6⟩ := hTC _ hd.1 hd.2
      have dr := tc_range (hTC _ hd.1 hd.2)
      have pa : C 5 x = -9 ∨ (0 ≤ C 5 x ∧ C 5 x < C 1 8) := by have := hx.2; omega
      have pb : C 6 x = -9 ∨ (0 ≤ C 6 x ∧ C 6 x < C 1 8) := by have := hx.2; omega
      have ea := (tc_of hTC rfl pa).2.1
      have eb := (tc_of hTC rfl pb).2.1
      have ra := (tc_rng hTC (C 5 x)).2.1
      have rb := (tc_rng hTC (C 6 x)).2.1
      rw [← ea, ← eb, ← d3, ← d5, ← d6] at q
      have m1 := small_mul dr.2.2.1 ra
      have m2 := small_mul dr.2.2.2 rb
      refine h_def h12 hnm (h_siz t9 (fun _ => ⟨3, ?_⟩) (fun e => absurd hd e))
      rw [w_X1_sizeUnfolded_L39]
      refine ⟨fun e => by omega, fun _ => h_tp0 t9 (fun _ => h_part0 (by omega) hh (e_siz t9 ⟨by unfold rg; omega, by unfold rg; omega, by unfold rl; omega, rgk _ (by decide), ?_⟩)) (fun e => absurd hd e)⟩
      rw [w_X1_sizeUnfolded_L39]
      refine ⟨fun e => by omega, fun _ => h_tp1 t9 (by decide) (fun _ => h_part (by omega) hh (fun e => absurd e (by decide)) (fun _ => e_siz t9 ⟨by unfold rg; omega, by unfold rg; omega, by unfold rl; omega, rgk _ (by decide), ?_⟩)) (fun e => absurd hd e)⟩
      rw [w_X1_sizeUnfolded_L39]
      exact ⟨fun _ => q, fun e => absurd (by decide) e⟩
/-- all in a made term is in order: fronts, counts -/
theorem inv_ok (hI : InvC C) (hx : made C x) : dep (vC C x) ≤ 4 ∧ allF (fun f => f < 100 → wok C f) (vC C x) ∧ allF (fun f => f < 100 → cok C f) (vC C x) := by
  obtain ⟨hB, ⟨t0, t9, th⟩, hT, hTC, hNC, hb⟩ := id hI
  have hfa := fr_all hT hB.2.1 (x.toNat + 1) x (by have := hx.1; omega) hx.2
  have hd := hTC x hx.1 hx.2
  refine ⟨by have := hd.1; have := hd.2.1; omega, allF_mono (fun f hf (hl : f < 100) => ?_) _ hfa, allF_mono (fun f hf (hl : f < 100) => ?_) _ hfa⟩
  · have := (hNC f (by omega) (by omega)).2.2.1
    unfold wok
    omega
  · exact (hNC f (by omega) (by omega)).2.2.2
theorem c_front (hI : InvC C) (q0 : ¬ made C x → Q (-1) C) (q1 : made C x → Q (hdw (C 16) (vC C x)) C) : w_X3_front C x Q := by
  obtain ⟨hB, ⟨t0, t9, th⟩, hT, hTC, hNC, hb⟩ := id hI
  by_cases hx : made C x
  · obtain ⟨o1, o2, o3⟩ := inv_ok hI hx
    exact h_made1 hx ⟨fun _ => h_fow (N := C 1 8) hT (by omega) (by omega) hB.2.1 (fun n a b => (hB.2.2 n a b).1) (by rw [th]; exact hx) o1 o2 (q1 hx), fun e => absurd e (by decide)⟩
  · exact h_made0 hx ⟨fun e => absurd rfl e, fun _ => q0 hx⟩
def wsz (C : Mem) (x : Int) : Int := sadd (sadd (cnw (cM C) 0 (vC C x)) (cnw (cM C) 1 (vC C x))) (cnw (cM C) 2 (vC C x))
theorem c_size (hI : InvC C) (q0 : ¬ made C x → Q (-9223372036854775808) C) (q1 : made C x → Q (if y = 0 then siz (vC C x) else if y = 1 then usz C x else if y = 2 then wsz C x else if y = 3 then cnw (cM C) 3 (vC C x) else -9223372036854775808) C) : w_X3_size C x y Q := by
  obtain ⟨hB, ⟨t0, t9, th⟩, hT, hTC, hNC, hb⟩ := id hI
  by_cases hx : made C x
  · have q := q1 hx
    obtain ⟨o1, o2, o3⟩ := inv_ok hI hx
    have cnt : ∀ (k : Nat) (Q2 : Int → Mem → Prop), k < 4 → Q2 (cnw (cM C) k (vC C x)) C → w_X1_countInWhole 6 C x (k : Int) 1 Q2 := fun k Q2 hk q2 =>
      h_cnt (N := C 1 8) hk hT (by omega) (by omega) hB.2.1 (fun n a b => (hB.2.2 n a b).1) 6 x 1 Q2 (by decide) hx.1 (by rw [th]; exact hx.2) (by omega) (by omega) o3 q2
    have sc : ∀ (k : Nat), k < 4 → sat (cnw (cM C) k (vC C x)) := fun k hk => sat_cnw _ (allF_mono (fun f hf h1 => ⟨(hf h1).at 0 (by decide), (hf h1).at 1 (by decide), (hf h1).at k hk⟩) _ o3)
    refine h_made1 hx ⟨fun _ => ⟨fun h => ?_, fun h => h_siz t9 (fun _ => ?_) (fun e => absurd hx e), fun h => h_usz hI hx ?_, fun h => cnt 0 _ (by decide) (cnt 1 _ (by decide) (h_sum (sc 0 (by decide)) (sc 1 (by decide)) (cnt 2 _ (by decide) (h_sum (sat_sadd (sc 0 (by decide)) (sc 1 (by decide))) (sc 2 (by decide)) ?_)))), fun h => cnt 3 _ (by decide) ?_⟩, fun e => absurd e (by decide)⟩
    · rw [if_neg (by omega), if_neg (by omega), if_neg (by omega), if_neg (by omega)] at q
      exact q
    · rw [if_pos h] at q
      rw [(hTC x hx.1 hx.2).2.2.1]
      exact q
    · rw [if_neg (by omega), if_pos h] at q
      exact q
    · rw [if_neg (by omega), if_neg (by omega), if_pos h] at q
      exact q
    · rw [if_neg (by omega), if_neg (by omega), if_neg (by omega), if_pos h] at q
      exact q
  · exact h_made0 hx ⟨fun e => absurd rfl e, fun _ => q0 hx⟩
theorem c_checked (q0 : ¬ (0 ≤ x ∧ x ≤ 4) → Q (-2) C) (q1 : 0 ≤ x ∧ x ≤ 4 → C 3 12 = 0 → Q (-3) C) (q2 : 0 ≤ x ∧ x ≤ 4 → C 3 12 ≠ 0 → Q (C 26 x) C) : w_X3_checked C x Q :=
  ⟨fun z => q0 (by omega), fun z => ⟨fun z2 => ⟨fun e => q1 (by omega) e, fun e => ⟨by omega, q2 (by omega) e⟩⟩, fun z2 => q0 (by omega)⟩⟩
theorem h_hmdL (h12 : C 2 7 ≤ 12) (q : Q (cntN (fun n => decide (C 13 n ≠ -9)) (C 2 7).toNat) C) : ∀ (k : Nat) (i : Nat), (i : Int) ≤ C 2 7 → C 2 7 - i < k → w_X1_howManyDefined_L4 Q k C (cntN (fun n => decide (C 13 n ≠ -9)) i) i := by
  intro k
  induction k with
  | zero => intro i h1 h2; omega
  | succ k ih =>
    intro i h1 h2
    have hr := cntN_rng (fun n => decide (C 13 n ≠ -9)) i
    rw [w_X1_howManyDefined_L4]
    refine ⟨fun h => ?_, fun h => ⟨by omega, fun e => ⟨by unfold rg; omega, ?_⟩, fun e => ⟨by unfold rg; omega, by unfold rg; omega, ?_⟩⟩⟩
    · rw [show (C 2 7).toNat = i by omega] at q
      exact q
    · have := ih (i + 1) (by omega) (by omega)
      rw [cntN, if_neg (by simp [e])] at this
      simpa using this
    · have := ih (i + 1) (by omega) (by omega)
      rw [cntN, if_pos (by simp [e])] at this
      simpa using this
theorem h_hmfL (h12 : C 2 7 ≤ 12) (q : Q (cntN (fold? C) (C 2 7).toNat) C) : ∀ (k : Nat) (i : Nat), (i : Int) ≤ C 2 7 → C 2 7 - i < k → w_X1_howManyFolded_L4 Q k C (cntN (fold? C) i) i := by
  intro k
  induction k with
  | zero => intro i h1 h2; omega
  | succ k ih =>
    intro i h1 h2
    have hr := cntN_rng (fold? C) i
    rw [w_X1_howManyFolded_L4]
    refine ⟨fun h => ?_, fun h => h_fold h12 ⟨by omega, by omega⟩ (fun z => ⟨fun _ => ⟨by unfold rg; omega, ?_⟩, fun e => absurd rfl e⟩) (fun z => ⟨fun e => absurd e (by decide), fun _ => ⟨by unfold rg; omega, by unfold rg; omega, ?_⟩⟩)⟩
    · rw [show (C 2 7).toNat = i by omega] at q
      exact q
    · have := ih (i + 1) (by omega) (by omega)
      rw [cntN, if_neg (by unfold fold?; rw [decide_eq_true_eq]; exact z)] at this
      simpa using this
    · have := ih (i + 1) (by omega) (by omega)
      rw [cntN, if_pos (by unfold fold?; rw [decide_eq_true_eq]; exact z)] at this
      simpa using this
def clo? (C : Mem) (x : Int) : Bool := decide (C 10 x = 0 ∧ C 11 x = 0)
theorem h_hmcL (h9 : C 1 8 ≤ 90) (q : Q (cntN (clo? C) (C 1 8).toNat) C) : ∀ (k : Nat) (i : Nat), (i : Int) ≤ C 1 8 → C 1 8 - i < k → w_X2_howManyClosed_L4 Q k C (cntN (clo? C) i) i := by
  intro k
  induction k with
  | zero => intro i h1 h2; omega
  | succ k ih =>
    intro i h1 h2
    have hr := cntN_rng (clo? C) i
    rw [w_X2_howManyClosed_L4]
    refine ⟨fun h => ?_, fun h => h_closed h9 ⟨by omega, by omega⟩ (fun z => ⟨fun e => absurd e (by decide), fun _ => ⟨by unfold rg; omega, by unfold rg; omega, ?_⟩⟩) (fun z => ⟨fun _ => ⟨by unfold rg; omega, ?_⟩, fun e => absurd rfl e⟩)⟩
    · rw [show (C 1 8).toNat = i by omega] at q
      exact q
    · have := ih (i + 1) (by omega) (by omega)
      rw [cntN, if_pos (by unfold clo?; rw [decide_eq_true_eq]; exact z)] at this
      simpa using this
    · have := ih (i + 1) (by omega) (by omega)
      rw [cntN, if_neg (by unfold clo?; rw [decide_eq_true_eq]; exact z)] at this
      simpa using this
theorem c_many (hI : InvC C) (q : Q (if x = 0 then C 2 7 else if x = 1 then C 1 8 else if x = 2 then cntN (fun n => decide (C 13 n ≠ -9)) (C 2 7).toNat else if x = 3 then cntN (fold? C) (C 2 7).toNat else if x = 4 then cntN (clo? C) (C 1 8).toNat else -2) C) : w_X3_many C x Q := by
  obtain ⟨hB, ⟨t0, t9, th⟩, hT, hTC, hNC, hb⟩ := id hI
  have h12 := hB.2.1
  have h0 := hB.1
  refine ⟨fun h => ?_, fun h => ?_, fun h => ?_, fun h => ⟨(C 2 7).toNat + 1, ?_⟩, fun h => ⟨(C 2 7).toNat + 1, ?_⟩, fun h => ⟨(C 1 8).toNat + 1, ?_⟩⟩
  · rw [if_neg (by omega), if_neg (by omega), if_neg (by omega), if_neg (by omega), if_neg (by omega)] at q
    exact q
  · rw [if_pos h] at q
    exact q
  · rw [if_neg (by omega), if_pos h] at q
    exact q
  · rw [if_neg (by omega), if_neg (by omega), if_pos h] at q
    exact h_hmdL h12 q _ 0 (by omega) (by omega)
  · rw [if_neg (by omega), if_neg (by omega), if_neg (by omega), if_pos h] at q
    exact h_hmfL h12 q _ 0 (by omega) (by omega)
  · rw [if_neg (by omega), if_neg (by omega), if_neg (by omega), if_neg (by omega), if_pos h] at q
    exact h_hmcL t9 q _ 0 (by omega) (by omega)
end H
