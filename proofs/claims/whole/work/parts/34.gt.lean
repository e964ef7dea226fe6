/-! the reference: goesThrough -/
def gsame (M M' : Mem) : Prop := (∀ c : Nat, c ≠ 0 → c ≠ 7 → M' c = M c) ∧ ∀ i : Int, i ≠ 9 → M' 0 i = M 0 i
theorem gsame.rf {M : Mem} : gsame M M := ⟨fun _ _ _ => rfl, fun _ _ => rfl⟩
theorem gsame.push {M M1 : Mem} (h : gsame M M1) (a v b : Int) : gsame M (up (up M1 7 a v) 0 9 b) := by
  refine ⟨fun c h0 h7 => ?_, fun i hi => ?_⟩
  · rw [up_off h0, up_off h7]
    exact h.1 c h0 h7
  · rw [up_at]
    show (if i = 9 then b else (up M1 7 a v) 0 i) = M 0 i
    rw [if_neg hi, up_off (by decide)]
    exact h.2 i hi
theorem gsame_pv {M M' : Mem} (h : gsame M M') : pv M' = pv M := by
  funext c i
  unfold pv
  rw [h.1 4 (by decide) (by decide), h.1 5 (by decide) (by decide), h.1 1 (by decide) (by decide), h.1 2 (by decide) (by decide), h.1 3 (by decide) (by decide), h.2 0 (by decide)]
theorem gsame_keeps {M M' : Mem} (h : gsame M M') : keeps M M' := ⟨fun c hc => h.1 c (by omega) (by omega), fun i hi => h.2 i (by omega)⟩
theorem gsame_TM {M M' : Mem} {N : Int} (h : gsame M M') (t : TM M N) : TM M' N := by
  unfold TM
  rw [gsame_pv h, h.2 0 (by decide), h.1 1 (by decide) (by decide)]
  exact t
theorem gsame_pcn {M M' : Mem} (h : gsame M M') (y : Int) : pcn M' y = pcn M y := by
  unfold pcn
  rw [h.1 4 (by decide) (by decide), h.1 1 (by decide) (by decide)]
section H
variable {M : Mem} {N x : Int}
theorem m_gtL {Q : Mem → Prop} (h : TM M N) (h15 : siz (vM M x) ≤ 15) (q : ∀ (M' : Mem) (n : Nat), gsame M M' → M' 0 9 = n → Walk M N x (M' 7) n → Q M') :
    ∀ (f k n : Nat) (M1 : Mem), gsame M M1 → M1 0 9 = n → Wk M N x (M1 7) k n → siz (vM M x) - k < f → w_X4_goesThrough_L27 Q f M1 k := by
  intro f
  induction f with
  | zero =>
    intro k n M1 hg hn w hf
    have := w.le h
    have := w.1
    omega
  | succ f ih =>
    intro k n M1 hg hn w hf
    have hle := w.le h
    have hkn := w.1
    rw [w_X4_goesThrough_L27]
    refine ⟨fun hh => ?_, fun hh => ⟨3, ?_⟩⟩
    · have e : k = n := by omega
      rw [e] at w
      exact q M1 n hg hn (w.done h h15)
    · have hk : k < n := by omega
      have hlk := w.2.2.2.1 k hk
      have t1 := gsame_TM hg h
      have hp := TM_pcn h hlk
      have h7 := h.2.1
      have nx : ∀ (m : Nat) (M2 : Mem), gsame M M2 → M2 0 9 = ((n + m : Nat) : Int) → (∀ j : Int, 0 ≤ j → j < n → M2 7 j = M1 7 j) → (m : Int) = pcn M (M1 7 k) → (0 < m → M2 7 n = M 5 (2 * M1 7 k)) → (1 < m → M2 7 (n + 1) = M 5 (2 * M1 7 k + 1)) → rg ((k : Int) + 1) ∧ w_X4_goesThrough_L27 Q f M2 ((k : Int) + 1) := fun m M2 g2 n2 a1 a2 a3 a4 => by
        refine ⟨by unfold rg; omega, ?_⟩
        have := ih (k + 1) (n + m) M2 g2 n2 (w.step h hk a1 m a2 a3 a4) (by omega)
        simpa using this
      have e5 : M1 5 = M 5 := hg.1 5 (by decide) (by decide)
      rw [w_X4_goesThrough_L37]
      refine ⟨by omega, m_partsOf t1 hlk ?_⟩
      rw [gsame_pcn hg]
      refine ⟨fun z => nx 0 M1 hg hn (fun _ _ _ => rfl) (by omega) (fun z => by omega) (fun z => by omega), fun z => ⟨by omega, m_part (by omega) (Or.inl rfl) ?_⟩⟩
      rw [Int.add_zero, e5, hn]
      generalize hM2 : up (up M1 7 (n : Int) (M 5 (2 * M1 7 k))) 0 9 (up M1 7 (n : Int) (M 5 (2 * M1 7 k)) 0 9 + 1) = M2
      have g2 : gsame M M2 := by
        rw [← hM2]
        exact hg.push _ _ _
      have n2 : M2 0 9 = (n : Int) + 1 := by
        rw [← hM2]
        simp [up, hn]
      have l2 : ∀ j : Int, M2 7 j = if j = n then M 5 (2 * M1 7 k) else M1 7 j := fun j => by
        rw [← hM2]
        simp [up]
      have k2 : M2 7 k = M1 7 k := by rw [l2, if_neg (by omega)]
      refine ⟨by omega, ?_, rgk _ (by decide), ?_⟩
      · show rg (M1 0 9 + 1)
        unfold rg
        omega
      · rw [w_X4_goesThrough_L37]
        refine ⟨by omega, ?_⟩
        rw [k2]
        refine m_partsOf (gsame_TM g2 h) hlk ?_
        rw [gsame_pcn g2, k2]
        refine ⟨fun z => nx 1 M2 g2 (by omega) (fun j j0 j1 => by rw [l2, if_neg (by omega)]) (by omega) (fun _ => by rw [l2, if_pos rfl]) (fun z => by omega), fun z => ⟨by omega, m_part (by omega) (Or.inr (by decide)) ?_⟩⟩
        rw [show (2 * M1 7 (k : Int) + (0 + 1)) = 2 * M1 7 k + 1 by omega, g2.1 5 (by decide) (by decide), n2]
        generalize hM3 : up (up M2 7 ((n : Int) + 1) (M 5 (2 * M1 7 k + 1))) 0 9 (up M2 7 ((n : Int) + 1) (M 5 (2 * M1 7 k + 1)) 0 9 + 1) = M3
        have g3 : gsame M M3 := by
          rw [← hM3]
          exact g2.push _ _ _
        have n3 : M3 0 9 = (n : Int) + 2 := by
          rw [← hM3]
          simp [up, n2]
          omega
        have l3 : ∀ j : Int, M3 7 j = if j = (n : Int) + 1 then M 5 (2 * M1 7 k + 1) else M2 7 j := fun j => by
          rw [← hM3]
          simp [up]
        have k3 : M3 7 k = M1 7 k := by rw [l3, if_neg (by omega), k2]
        refine ⟨by omega, ?_, rgk _ (by decide), ?_⟩
        · show rg (M2 0 9 + 1)
          unfold rg
          omega
        · rw [w_X4_goesThrough_L37]
          refine ⟨by omega, ?_⟩
          rw [k3]
          refine m_partsOf (gsame_TM g3 h) hlk ?_
          rw [gsame_pcn g3, k3]
          refine ⟨fun z => nx 2 M3 g3 (by omega) (fun j j0 j1 => by rw [l3, if_neg (by omega), l2, if_neg (by omega)]) (by omega) (fun _ => by rw [l3, if_neg (by omega), l2, if_pos rfl]) (fun _ => by rw [l3, if_pos rfl]), fun z => by omega⟩
theorem m_gt {Q : Mem → Prop} (h : TM M N) (hx : 0 ≤ x ∧ x < N) (h15 : siz (vM M x) ≤ 15) (q : ∀ (M' : Mem) (n : Nat), gsame M M' → M' 0 9 = n → Walk M N x (M' 7) n → Q M') : w_X4_goesThrough M x Q := by
  have e9 : (up M 0 9 0) 0 9 = 0 := by simp [up]
  unfold w_X4_goesThrough
  rw [e9]
  refine ⟨by decide, ?_, (siz (vM M x)).toNat + 1, ?_⟩
  · have : (up (up M 0 9 0) 7 0 x) 0 9 = 0 := by simp [up]
    rw [this]
    exact rgk _ (by decide)
  · generalize hM2 : up (up (up M 0 9 0) 7 0 x) 0 9 (up (up M 0 9 0) 7 0 x 0 9 + 1) = M2
    have g2 : gsame M M2 := by
      rw [← hM2]
      refine gsame.push ⟨fun c a b => up_off a, fun i hi => ?_⟩ _ _ _
      rw [up_at]
      show (if i = 9 then 0 else M 0 i) = M 0 i
      rw [if_neg hi]
    have n2 : M2 0 9 = ((1 : Nat) : Int) := by
      rw [← hM2]
      simp [up]
    have l0 : M2 7 0 = x := by
      rw [← hM2]
      simp [up]
    have hs := siz_nn (vM M x)
    exact m_gtL h h15 q _ 0 1 M2 g2 n2 (Wk.start hx l0) (by omega)
/-- a node with the front p is there if the term has one -/
theorem psum_pos {g : Int → Bool} : ∀ n : Nat, (0 < psum (fun k => if g k = true then 1 else 0) n ↔ ∃ k : Nat, k < n ∧ g k = true)
  | 0 => by
    refine ⟨fun h => absurd h (Int.lt_irrefl 0), fun ⟨k, h, _⟩ => absurd h (by omega)⟩
  | n + 1 => by
    have ih := psum_pos (g := g) n
    have nn : ∀ m : Nat, 0 ≤ psum (fun k => if g k = true then 1 else 0) m := fun m => by
      induction m with
      | zero => exact Int.le_refl 0
      | succ m im =>
        rw [psum]
        split <;> omega
    have := nn n
    rw [psum]
    constructor
    · intro h
      by_cases c : g n = true
      · exact ⟨n, by omega, c⟩
      · rw [if_neg c] at h
        obtain ⟨k, k1, k2⟩ := ih.mp (by omega)
        exact ⟨k, by omega, k2⟩
    · rintro ⟨k, k1, k2⟩
      by_cases c : k = n
      · rw [← c, if_pos k2]
        rw [c]
        omega
      · have := ih.mpr ⟨k, by omega, k2⟩
        split <;> omega
theorem Walk.mem {l : Int → Int} {n : Nat} (w : Walk M N x l n) (p : Nat) : 0 < occ p (vM M x) ↔ ∃ k : Nat, k < n ∧ M 4 (l k) = p := by
  rw [← w.2.2.2.2.1 p]
  have := psum_pos (g := fun k => decide (M 4 (l k) = p)) n
  simp only [decide_eq_true_eq] at this
  exact this
theorem Walk.all {l : Int → Int} {n : Nat} (h : TM M N) (w : Walk M N x l n) (P : Nat → Prop) : allF P (vM M x) ↔ ∀ k : Nat, k < n → P (M 4 (l k)).toNat := by
  constructor
  · intro ha k hk
    have hf := h.fr (w.2.2.2.1 k hk)
    exact occ_pos_all _ ha ((w.mem _).mpr ⟨k, hk, by omega⟩)
  · intro ha
    refine allF_of_occ _ (fun p hp => ?_)
    obtain ⟨k, k1, k2⟩ := (w.mem p).mp hp
    have := ha k k1
    rw [k2] at this
    simpa using this
end H
