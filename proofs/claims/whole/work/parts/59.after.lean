/-! a check begins, and ends -/
section H
variable {C C' M M' : Mem} {k K : Int}
theorem inv_after (hI : InvC C) (hc : ∀ c : Nat, c = 2 ∨ (7 ≤ c ∧ c ≤ 21) → C' c = C c) (h8 : C' 1 8 = C 1 8) (h9 : C' 1 9 = C 1 8) (ht : ∀ i, 0 ≤ i → i < C 1 8 → C' 4 i = C 4 i ∧ C' 5 i = C 5 i ∧ C' 6 i = C 6 i) (hb : b01 (C' 3 12)) : InvC C' := by
  obtain ⟨hB, ⟨t0, t9, th⟩, hT, hTC, hNC, -⟩ := hI
  have vv : ∀ x, x < C 1 8 → vC C' x = vC C x := fun x hx => vC_ext hT ht hx
  have e2 := hc 2 (by omega)
  have e12 := hc 12 (by omega)
  have e13 := hc 13 (by omega)
  have e14 := hc 14 (by omega)
  have hl : ∀ n, 0 ≤ n → n < C 2 7 → C 13 n < C 1 8 := fun n n0 n1 => by
    rcases (hB.2.2 n n0 n1).2.2 with e | e
    · omega
    · exact e.2.1
  refine ⟨⟨by rw [e2]; exact hB.1, by rw [e2]; exact hB.2.1, fun n n0 n1 => ?_⟩, by omega, ⟨fun x x0 x1 => ?_, fun x y x0 x1 y0 y1 q1 q2 q3 => ?_⟩, fun x x0 x1 => ?_, fun n n0 n1 => ?_, hb⟩
  · rw [e2] at n1
    rw [e12, e13, e14, h8, vv _ (hl n n0 n1)]
    exact hB.2.2 n n0 n1
  · rw [h8] at x1
    unfold tnode
    rw [(ht x x0 x1).1, (ht x x0 x1).2.1, (ht x x0 x1).2.2, e2, e12]
    exact hT.1 x x0 x1
  · rw [h8] at x1 y1
    rw [(ht x x0 x1).1, (ht y y0 y1).1] at q1
    rw [(ht x x0 x1).2.1, (ht y y0 y1).2.1] at q2
    rw [(ht x x0 x1).2.2, (ht y y0 y1).2.2] at q3
    exact hT.2 x y x0 x1 y0 y1 q1 q2 q3
  · rw [h8] at x1
    unfold tcache
    rw [vv x x1, hc 7 (by omega), hc 8 (by omega), hc 9 (by omega), hc 10 (by omega), hc 11 (by omega)]
    exact hTC x x0 x1
  · rw [e2] at n1
    have e18 : (fun i => C' (18 + i)) = (fun i => C' (18 + i)) := rfl
    obtain ⟨q1, q2⟩ := hNC n n0 n1
    have cn : ∀ j, j < 4 → ∀ t, cnw (fun i => C' (18 + i)) j t = cnw (fun i => C (18 + i)) j t := by
      intro j hj t
      refine tr_ind (P := fun t => cnw (fun i => C' (18 + i)) j t = cnw (fun i => C (18 + i)) j t) ?_ ?_ t
      · intro t hn
        rw [tr_leaf (cnw (fun i => C' (18 + i)) j) 0 (fun _ => rfl) (fun _ _ _ => rfl) (fun _ _ => rfl) t hn, tr_leaf (cnw (fun i => C (18 + i)) j) 0 (fun _ => rfl) (fun _ _ _ => rfl) (fun _ _ => rfl) t hn]
      · intro f a b ha hb
        rw [cnw_nd, cnw_nd, ha, hb, hc (18 + j) (by omega), hc (18 + 0) (by omega), hc (18 + 1) (by omega)]
    refine ⟨⟨fun z => ?_, fun z => ?_⟩, ?_⟩
    · unfold fold at z
      rw [e13, e14] at z
      rw [hc 15 (by omega), hc 16 (by omega), hc 18 (by omega), hc 19 (by omega), hc 20 (by omega), hc 21 (by omega), e12]
      exact q1.1 z
    · unfold fold at z
      rw [e13, e14] at z
      rw [e13, vv _ (hl n n0 n1), cn 0 (by decide), cn 1 (by decide), cn 2 (by decide), cn 3 (by decide), hc 15 (by omega), hc 16 (by omega), hc 18 (by omega), hc 19 (by omega), hc 20 (by omega), hc 21 (by omega)]
      exact q1.2 z
    · unfold nrange
      rw [hc 15 (by omega), hc 16 (by omega), hc 18 (by omega), hc 19 (by omega), hc 20 (by omega), hc 21 (by omega), e12]
      exact q2
theorem rel_after (hI : InvC C) (hX : XC C M) (hc : ∀ c : Nat, c ≠ 1 → c ≠ 3 → c ≠ 26 → C' c = M c) (h8 : C' 1 8 = M 1 8) (h9 : C' 1 9 = M 1 8) (hb : b01 (C' 3 12))
    (h0 : M' 0 0 = C 2 7 ∧ M' 0 4 = C 1 8 ∧ M' 0 5 = C 1 8) (hn : ∀ n, 0 ≤ n → n < C 2 7 → M' 1 n = C 12 n ∧ M' 2 n = C 13 n ∧ M' 3 n = C 14 n) (hn2 : ∀ n, C 2 7 ≤ n → n < 12 → M' 2 n = -9 ∧ M' 3 n = 0)
    (hx : ∀ x, 0 ≤ x → x < C 1 8 → M' 4 x = C 4 x ∧ M' 5 (2 * x) = C 5 x ∧ M' 5 (2 * x + 1) = C 6 x ∧ M' 6 x = C 7 x) (ht : M' 0 33 = C' 3 12 ∧ (C' 3 12 ≠ 0 → ∀ i, 0 ≤ i → i ≤ 4 → M' 21 i = C' 26 i)) (hk : 0 ≤ M' 0 24 ∧ M' 0 24 ≤ k ∧ ∀ i, 0 ≤ i → i < 547600 → 0 ≤ M' 16 i ∧ M' 16 i ≤ 2 * M' 0 24 + 1) : Rel k C' M' := by
  obtain ⟨x1, x2, x3, x4, x5, x6, x7⟩ := hX
  have ec : ∀ c : Nat, c = 2 ∨ (7 ≤ c ∧ c ≤ 21) → C' c = C c := fun c hcc => (hc c (by omega) (by omega) (by omega)).trans (x1 c (by omega))
  have et : ∀ i, 0 ≤ i → i < C 1 8 → C' 4 i = C 4 i ∧ C' 5 i = C 5 i ∧ C' 6 i = C 6 i := fun i i0 i1 => by
    rw [hc 4 (by decide) (by decide) (by decide), hc 5 (by decide) (by decide) (by decide), hc 6 (by decide) (by decide) (by decide)]
    exact x4 i i0 i1
  refine ⟨inv_after hI ec (by omega) (by omega) et hb, ⟨by rw [ec 2 (by omega)]; exact h0.1, by omega, by omega⟩, ?_, ?_, fun y y0 y1 => ?_, ht, hk⟩
  · rw [ec 2 (by omega), ec 12 (by omega), ec 13 (by omega), ec 14 (by omega)]
    exact hn
  · rw [ec 2 (by omega)]
    exact hn2
  · have y8 : y < C 1 8 := by omega
    rw [(et y y0 y8).1, (et y y0 y8).2.1, (et y y0 y8).2.2, ec 7 (by omega)]
    exact hx y y0 y8
/-- Arrays.fill -/
theorem h_fillL {Q : Mem → Prop} (q : ∀ M' : Mem, (∀ c : Nat, c ≠ 22 → M' c = M c) → (∀ j, 0 ≤ j → j < 4440 → M' 22 j = 0) → Q M') : ∀ (n i : Nat) (Mc : Mem), i ≤ 4440 → 4440 - i < n → (∀ c : Nat, c ≠ 22 → Mc c = M c) → (∀ j : Int, 0 ≤ j → j < i → Mc 22 j = 0) → w_J7_fill_d0a16_L6 Q n Mc 0 i 4440 := by
  intro n
  induction n with
  | zero => intro i Mc h1 h2; omega
  | succ n ih =>
    intro i Mc h1 h2 h3 h4
    rw [w_J7_fill_d0a16_L6]
    refine ⟨fun z => q Mc h3 (fun j j0 j1 => h4 j j0 (by omega)), fun z => ⟨by omega, by unfold rg; omega, ?_⟩⟩
    have := ih (i + 1) (up Mc 22 i 0) (by omega) (by omega) (fun c hc => by rw [up_off hc]; exact h3 c hc) (fun j j0 j1 => ?_)
    · exact this
    · rw [up_at]
      show (if j = i then 0 else Mc 22 j) = 0
      by_cases e : j = i
      · rw [if_pos e]
      · rw [if_neg e]
        exact h4 j j0 (by omega)
theorem h_fill0 {Q : Mem → Prop} (q : ∀ M' : Mem, (∀ c : Nat, c ≠ 22 → M' c = M c) → (∀ j, 0 ≤ j → j < 4440 → M' 22 j = 0) → Q M') : w_J7_fill_d0a16 M 0 Q :=
  ⟨4441, h_fillL q 4441 0 M (by omega) (by omega) (fun _ _ => rfl) (fun j j0 j1 => by omega)⟩
def σ0 : SG := (fun _ _ => 0, 0, 0, -9, -9)
theorem gb0 {i : Nat} (hi : i < 32) : gb 0 ((2 * i : Nat) : Int) = 0 := by
  rw [gb_N 0 hi]
  have : wN 0 = 0 := by decide
  rw [this, Nat.zero_div]
  rfl
/-- start -/
theorem c_start (hI : InvC C) {Q : Mem → Prop} (q : ∀ M1, SCs C σ0 (fun _ _ => False) M1 → M1 3 6 = 0 → (∀ x, vC M1 x = vC C x) → M1 1 9 = C 1 8 → Q M1) : w_X0_start C Q := by
  refine h_fill0 (fun M4 hc hz => ?_)
  generalize hM1 : up (up (up (up (up M4 3 6 0) 3 7 0) 3 8 0) 3 9 (-9)) 3 10 (-9) = M1
  have k1 : ∀ c : Nat, c ≠ 3 → M1 c = M4 c := fun c c3 => by rw [← hM1, up_off c3, up_off c3, up_off c3, up_off c3, up_off c3]
  have k : ∀ c : Nat, c ≠ 1 → c ≠ 3 → c ≠ 22 → M1 c = C c := fun c _ c3 c22 => by rw [k1 c c3, hc c c22]
  have k18 : M1 1 8 = C 1 8 := by rw [k1 1 (by decide), hc 1 (by decide)]
  have k19 : M1 1 9 = C 1 8 := by rw [k1 1 (by decide), hc 1 (by decide)]; exact hI.2.1.2.2
  have k312 : M1 3 12 = C 3 12 := by
    rw [← hM1]
    have := hc 3 (by decide)
    simp [up, this]
  have t9 := hI.2.1.2.1
  have t0 := hI.2.1.1
  have ev : ∀ x, vC M1 x = vC C x := fun x => by
    unfold vC
    rw [k 4 (by decide) (by decide) (by decide), k 5 (by decide) (by decide) (by decide), k 6 (by decide) (by decide) (by decide)]
  have hX : XC C M1 := by
    refine ⟨fun c hcc => k c (by omega) (by omega) (by omega), k18, k312, fun i _ _ => by rw [k 4 (by decide) (by decide) (by decide), k 5 (by decide) (by decide) (by decide), k 6 (by decide) (by decide) (by decide)]; exact ⟨rfl, rfl, rfl⟩, by omega, by omega, ?_⟩
    unfold TB tnode
    rw [k19, k 2 (by decide) (by decide) (by decide), k 4 (by decide) (by decide) (by decide), k 5 (by decide) (by decide) (by decide), k 6 (by decide) (by decide) (by decide), k 12 (by decide) (by decide) (by decide)]
    exact hI.2.2.1
  have j0 : ∀ a b, 0 ≤ a → a < 370 → 0 ≤ b → b < 370 → jv M1 a b = 0 := fun a b a0 a1 b0 b1 => by
    unfold jv
    rw [k1 22 (by decide), hz _ (by omega) (by omega)]
    have := gb0 (i := (b % 32).toNat) (by omega)
    rw [show ((2 * (b % 32).toNat : Nat) : Int) = b % 32 * 2 by omega] at this
    exact this
  refine q M1 ⟨hX, by show M1 1 9 ≤ 90 + 7 * 0; omega, ⟨Int.le_refl 0, by decide⟩, ⟨by rw [← hM1]; simp [up, σ0], by rw [← hM1]; simp [up, σ0], by rw [← hM1]; simp [up, σ0], by rw [← hM1]; simp [up, σ0]⟩, fun a b a0 a1 b0 b1 => j0 a b a0 (by omega) b0 (by omega), fun a b a0 a1 b0 b1 _ => j0 a b a0 a1 b0 b1, fun p r z => absurd rfl z, [], List.nodup_nil, rfl, fun n hn => absurd hn List.not_mem_nil⟩ (by rw [← hM1]; simp [up]) ev k19
end H
