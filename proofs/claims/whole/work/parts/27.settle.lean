/-! the class: what follows from definitions is settled anew -/
def sb (M M' : Mem) : Prop := ∀ c : Nat, c ≠ 15 → c ≠ 16 → (c < 18 ∨ 21 < c) → M' c = M c
def Core (M : Mem) : Prop := NB M ∧ (0 ≤ M 1 8 ∧ M 1 8 ≤ 90 ∧ M 1 9 = M 1 8) ∧ TB M (M 1 8) ∧ TC M (M 1 8)
theorem sb.rf {M : Mem} : sb M M := fun _ _ _ _ => rfl
theorem sb.tr {M M1 M2 : Mem} (h : sb M M1) (h2 : sb M1 M2) : sb M M2 := fun c a b d => (h2 c a b d).trans (h c a b d)
theorem sb_vC {M M' : Mem} (h : sb M M') (x : Int) : vC M' x = vC M x := by
  unfold vC
  rw [h 4 (by decide) (by decide) (by decide), h 5 (by decide) (by decide) (by decide), h 6 (by decide) (by decide) (by decide)]
theorem sb_Core {M M' : Mem} (h : sb M M') (hc : Core M) : Core M' := by
  have e1 : M' 1 = M 1 := h 1 (by decide) (by decide) (by decide)
  have e2 : M' 2 = M 2 := h 2 (by decide) (by decide) (by decide)
  have e4 : M' 4 = M 4 := h 4 (by decide) (by decide) (by decide)
  have e5 : M' 5 = M 5 := h 5 (by decide) (by decide) (by decide)
  have e6 : M' 6 = M 6 := h 6 (by decide) (by decide) (by decide)
  have e7 : M' 7 = M 7 := h 7 (by decide) (by decide) (by decide)
  have e8 : M' 8 = M 8 := h 8 (by decide) (by decide) (by decide)
  have e9 : M' 9 = M 9 := h 9 (by decide) (by decide) (by decide)
  have e10 : M' 10 = M 10 := h 10 (by decide) (by decide) (by decide)
  have e11 : M' 11 = M 11 := h 11 (by decide) (by decide) (by decide)
  have e12 : M' 12 = M 12 := h 12 (by decide) (by decide) (by decide)
  have e13 : M' 13 = M 13 := h 13 (by decide) (by decide) (by decide)
  have e14 : M' 14 = M 14 := h 14 (by decide) (by decide) (by decide)
  obtain ⟨h1, h2, h3, h4⟩ := hc
  refine ⟨?_, ?_, ?_, ?_⟩
  · unfold NB
    simp only [e2, e12, e13, e14, e1, sb_vC h]
    exact h1
  · rw [e1]
    exact h2
  · unfold TB tnode
    rw [e1, e2, e4, e5, e6, e12]
    exact h3
  · unfold TC tcache
    simp only [e1, e7, e8, e9, e10, e11, sb_vC h]
    exact h4
/-- the ranges of fronts of wholes -/
theorem hdw_rng {M : Mem} {N m a : Int} {w : Int → Int} (hT : TB M N) (hm : m ≤ M 2 7) (h12 : M 2 7 ≤ 12) (har : ∀ n, 0 ≤ n → n < M 2 7 → 0 ≤ M 12 n ∧ M 12 n ≤ 2) (hw : ∀ f, 0 ≤ f → f < m → (0 ≤ w f ∧ w f ≤ f) ∨ (100 ≤ w f ∧ w f < 100 + M 12 f)) :
    ∀ (k : Nat) (x : Int), 0 ≤ x → x < N → x < k → allF (okd m a) (vC M x) → (0 ≤ hdw w (vC M x) ∧ hdw w (vC M x) < m) ∨ (100 ≤ hdw w (vC M x) ∧ hdw w (vC M x) < 100 + a) := by
  intro k
  induction k with
  | zero => intro x h0 h1 h2; omega
  | succ k ih =>
    intro x h0 h1 h2 ha
    rw [vC_eq hT h0 h1] at ha ⊢
    rw [allF_nd] at ha
    rw [hdw_nd]
    obtain ⟨a1, a2, a3⟩ := ha
    rcases hT.1 x h0 h1 with ⟨p1, p2, p3⟩ | ⟨p1, p2, p3, p4, p5⟩
    · rw [if_pos (by omega)]
      unfold okd at a1
      omega
    · have e4 : (((M 4 x).toNat : Nat) : Int) = M 4 x := Int.toNat_of_nonneg p1.1
      rw [if_neg (by omega), e4]
      unfold okd at a1
      have hf := hw (M 4 x) p1.1 (by omega)
      have hA := har _ p1.1 p1.2
      by_cases c1 : w (M 4 x) < 100
      · rw [if_pos c1]
        omega
      · rw [if_neg c1]
        by_cases c2 : w (M 4 x) = 100
        · rw [if_pos c2]
          have := p3 (by omega)
          exact ih _ this.1 (by omega) (by omega) a2
        · rw [if_neg c2]
          have := p5 (by omega)
          exact ih _ this.1 (by omega) (by omega) a3
def setN (M M' : Mem) (n : Int) : Prop := sb M M' ∧ ∀ c i, i ≠ n → M' c i = M c i
theorem ncache_keep {M M' : Mem} {n k : Int} (hs : setN M M' n) (hB : NB M) (hk : 0 ≤ k ∧ k < M 2 7) (hkn : k < n) (h : ncache M k ∧ nrange M k) : ncache M' k ∧ nrange M' k := by
  obtain ⟨h1, h2⟩ := hs
  have e12 : M' 12 = M 12 := h1 12 (by decide) (by decide) (by decide)
  have e13 : M' 13 = M 13 := h1 13 (by decide) (by decide) (by decide)
  have e14 : M' 14 = M 14 := h1 14 (by decide) (by decide) (by decide)
  obtain ⟨⟨q1, q2⟩, q3⟩ := h
  have ne : k ≠ n := by omega
  refine ⟨⟨?_, ?_⟩, ?_⟩
  · unfold fold
    rw [e12, e13, e14, h2 15 k ne, h2 16 k ne, h2 18 k ne, h2 19 k ne, h2 20 k ne, h2 21 k ne]
    exact q1
  · unfold fold
    rw [e13, e14, h2 15 k ne, h2 16 k ne, h2 18 k ne, h2 19 k ne, h2 20 k ne, h2 21 k ne, sb_vC h1]
    intro hf
    have hdef : allF (okd k (M 12 k)) (vC M (M 13 k)) := by
      rcases (hB.2.2 k hk.1 hk.2).2.2 with z | z
      · exact absurd z hf.1
      · exact z.2.2
    have x1 : ∀ c, allF (fun f => f < 100 → M' c f = M c f) (vC M (M 13 k)) := fun c => allF_mono (fun f hf (hl : f < 100) => h2 c f (by unfold okd at hf; omega)) _ hdef
    have x2 : ∀ c1 c2 c3, allF (fun f => f < 100 → M' c1 f = M c1 f ∧ M' c2 f = M c2 f ∧ (2 ≤ c3 → M' (18 + c3) f = M (18 + c3) f)) (vC M (M 13 k)) := fun c1 c2 c3 => allF_mono (fun f hf hl => ⟨h2 c1 f (by unfold okd at hf; omega), h2 c2 f (by unfold okd at hf; omega), fun _ => h2 _ f (by unfold okd at hf; omega)⟩) _ hdef
    rw [mxh_ext _ (x1 15), hdw_ext _ (x1 16), cnw_ext (c' := fun i => M (18 + i)) (k := 0) _ (x2 18 19 0), cnw_ext (c' := fun i => M (18 + i)) (k := 1) _ (x2 18 19 1), cnw_ext (c' := fun i => M (18 + i)) (k := 2) _ (x2 18 19 2), cnw_ext (c' := fun i => M (18 + i)) (k := 3) _ (x2 18 19 3)]
    exact q2 hf
  · unfold nrange
    rw [e12, h2 15 k ne, h2 16 k ne, h2 18 k ne, h2 19 k ne, h2 20 k ne, h2 21 k ne]
    exact q3
section H
variable {M : Mem} {Q : Mem → Prop} {n : Int}
theorem h_plain (h12 : M 2 7 ≤ 12) (hn : 0 ≤ n ∧ n < M 2 7) (q : ∀ M', setN M M' n → M' 15 n = 0 ∧ M' 16 n = n ∧ M' 18 n = (if 0 < M 12 n then 1 else 0) ∧ M' 19 n = (if 1 < M 12 n then 1 else 0) ∧ M' 20 n = 1 ∧ M' 21 n = 0 → Q M') : w_X1_settlePlain M n Q := by
  refine h_has1 hn ⟨fun _ => ⟨by omega, by omega, 3, ?_⟩, fun z => absurd z (by decide)⟩
  have fin : ∀ v0 v1 : Int, v0 = (if 0 < M 12 n then 1 else 0) → v1 = (if 1 < M 12 n then 1 else 0) → Q (up (up (up (up (up (up M 15 n 0) 16 n n) 18 n v0) 19 n v1) 20 n 1) 21 n 0) := fun v0 v1 e0 e1 => by
    apply q
    · refine ⟨fun c a b d => ?_, fun c i hi => ?_⟩
      · rw [up_off (by omega), up_off (by omega), up_off (by omega), up_off (by omega), up_off b, up_off a]
      · simp [up, hi]
        repeat' split
        all_goals simp_all
    · rw [← e0, ← e1]
      simp [up]
  rw [w_X1_settlePlain_L25]
  refine ⟨fun z => by omega, fun _ => ⟨by decide, by omega, fun z => ⟨by omega, rgk _ (by decide), ?_⟩, fun z => ⟨by omega, rgk _ (by decide), ?_⟩⟩⟩
  · have z' : ¬ 0 < M 12 n := by
      have : M 12 n ≤ 0 := z
      omega
    rw [w_X1_settlePlain_L25]
    refine ⟨fun z => by omega, fun _ => ⟨by decide, by omega, fun y => ⟨by omega, rgk _ (by decide), ?_⟩, fun y => ⟨by omega, rgk _ (by decide), ?_⟩⟩⟩
    · have y' : ¬ 1 < M 12 n := by omega
      rw [w_X1_settlePlain_L25]
      exact ⟨fun _ => ⟨by decide, by omega, by decide, by omega, fin 0 0 (by rw [if_neg z']) (by rw [if_neg y'])⟩, fun z => absurd (by decide) z⟩
    · have y' : ¬ M 12 n ≤ 0 + 1 := y
      omega
  · have z' : 0 < M 12 n := by
      have : ¬ M 12 n ≤ 0 := z
      omega
    rw [w_X1_settlePlain_L25]
    refine ⟨fun z => by omega, fun _ => ⟨by decide, by omega, fun y => ⟨by omega, rgk _ (by decide), ?_⟩, fun y => ⟨by omega, rgk _ (by decide), ?_⟩⟩⟩
    · have y' : ¬ 1 < M 12 n := by
        have : M 12 n ≤ 0 + 1 := y
        omega
      rw [w_X1_settlePlain_L25]
      exact ⟨fun _ => ⟨by decide, by omega, by decide, by omega, fin 1 0 (by rw [if_pos z']) (by rw [if_neg y'])⟩, fun z => absurd (by decide) z⟩
    · have y' : 1 < M 12 n := by
        have : ¬ M 12 n ≤ 0 + 1 := y
        omega
      rw [w_X1_settlePlain_L25]
      exact ⟨fun _ => ⟨by decide, by omega, by decide, by omega, fin 1 1 (by rw [if_pos z']) (by rw [if_pos y'])⟩, fun z => absurd (by decide) z⟩
end H
