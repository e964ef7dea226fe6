/-! check, side by side -/
section H
variable {k : Int} {C M : Mem} {x y r K : Int} {σ : SG}
/-- what the class tells -/
theorem c_told {Q : Mem → Prop} (hr : r = 0 ∨ r = 1) (h : M 3 7 = σ.2.1 ∧ M 3 8 = σ.2.2.1 ∧ M 3 9 = σ.2.2.2.1 ∧ M 3 10 = σ.2.2.2.2) (q : ∀ M' : Mem, (∀ c : Nat, c ≠ 3 → c ≠ 26 → M' c = M c) → (∀ i, i ≠ 12 → M' 3 i = M 3 i) → M' 3 12 = 1 → (∀ i, 0 ≤ i → i ≤ 4 → M' 26 i = tld σ r i) → Q M') : w_X0_keep M r Q := by
  obtain ⟨g7, g8, g9, g10⟩ := h
  unfold w_X0_keep
  have a0 : (up M 26 0 (M 3 7)) 3 8 = σ.2.2.1 := by rw [up_off (by decide), g8]
  rw [a0, g7]
  generalize hM2 : up (up M 26 0 σ.2.1) 26 1 σ.2.2.1 = M2
  have c2 : ∀ c : Nat, c ≠ 26 → M2 c = M c := fun c cc => by rw [← hM2, up_off cc, up_off cc]
  have w9 : M2 3 9 = σ.2.2.2.1 := by rw [c2 3 (by decide), g9]
  rw [w9]
  have fin : ∀ a b : Int, (a = if r = 1 then -9 else σ.2.2.2.1) → (b = if r = 1 then -9 else σ.2.2.2.2) → Q (up (up (up (up M2 26 2 a) 26 3 b) 26 4 r) 3 12 1) := by
    intro a b ea eb
    refine q _ (fun c c0 c21 => by rw [up_off c0, up_off c21, up_off c21, up_off c21, c2 c c21]) (fun i i12 => ?_) (by simp [up]) (fun i i0 i4 => ?_)
    · rw [← c2 3 (by decide)]
      simp [up, i12]
    · unfold tld
      rw [← ea, ← eb, ← hM2]
      have hi : i = 0 ∨ i = 1 ∨ i = 2 ∨ i = 3 ∨ i = 4 := by omega
      rcases hi with e | e | e | e | e <;> subst e <;> simp [up]
  refine ⟨by decide, by decide, ?_⟩
  rcases hr with e | e
  · subst e
    refine ⟨fun _ => ⟨by decide, fun _ => ?_, fun z => absurd z (by decide)⟩, fun z => absurd z (by decide)⟩
    have w22 : (up M2 26 2 σ.2.2.2.1) 3 10 = σ.2.2.2.2 := by rw [up_off (by decide), c2 3 (by decide), g10]
    rw [w22]
    exact ⟨by decide, by decide, fin σ.2.2.2.1 σ.2.2.2.2 rfl rfl⟩
  · subst e
    exact ⟨fun z => absurd rfl z, fun _ => ⟨by decide, fun z => absurd rfl z, fun _ => ⟨by decide, by decide, fin (-9) (-9) rfl rfl⟩⟩⟩
theorem p_run (h : Rel k C M) (hk : k ≤ 900) (hx : made C x) (hy : made C y) (cx : occ 100 (vC C x) = 0 ∧ occ 101 (vC C x) = 0) (cy : occ 100 (vC C y) = 0 ∧ occ 101 (vC C y) = 0) : w_X0_run C x y (fun r C' => w_X4_check M x y (fun r' M' => r = r' ∧ Rel (k + 1) C' M')) := by
  have hI := h.1
  have hK : 1 ≤ M 0 24 + 1 ∧ M 0 24 + 1 ≤ 1000 := by
    have := h.2.2.2.2.2.2
    omega
  have hk24 : M 0 24 + 1 ≤ k + 1 := by
    have := h.2.2.2.2.2.2
    omega
  have hx1 := hx.2
  have hy1 := hy.2
  have dp : ∀ z, made C z → dep (vC C z) ≤ 4 := fun z hz => by
    have := h.1.2.2.2.1 z hz.1 hz.2
    have h1 := this.1
    have h2 := this.2.1
    omega
  have dx := dp x hx
  have dy := dp y hy
  refine c_start hI (fun M1 s1 o1 v1 e19 => ?_)
  rcases both hI hK (mu C (vC C x) + mu C (vC C y) + 1) (vC C x) (vC C y) σ0 (fun _ _ => False) (by omega) (wfT_closed hI hx cx) (wfT_closed hI hy cy) (fun _ _ z => absurd z id) ⟨Int.le_refl 0, by decide⟩ (fun _ _ => ⟨Int.le_refl 0, (by decide : (0 : Int) ≤ 2)⟩) with ⟨r, σ', t, t', ⟨r1, r2, r3, r4⟩, ht, hC, hM⟩ | ⟨t, t', hC, hM⟩
  · refine hC _ _ M1 0 x y 0 1 s1 o1 (by rw [e19]; exact hx) (by rw [e19]; exact hy) (v1 x) (v1 y) (by show ((0 : Nat) : Int) + dep (vC C x) ≤ 4 + 4 * 0; omega) (by show ((0 : Nat) : Int) + dep (vC C y) ≤ 4 + 4 * 0; omega) (Int.le_refl 0) (by decide) (fun r2 M2 hh => ⟨1 + t, hh⟩) (fun M2 s2 o2 f2 x2 => ?_)
    have j58 : w_X0_run_J58 (fun r C' => w_X4_check M x y (fun r' M' => r = r' ∧ Rel (k + 1) C' M')) M2 r := by
      have o2' : (up M2 1 9 (M2 1 8)) 3 6 = 0 := by rw [up_off (by decide)]; exact o2
      refine ⟨fun z => by omega, fun _ => ⟨fun _ => c_told (σ := σ') r1 (by rw [up_off (by decide)]; exact s2.2.2.2.1) (fun M7 c7 z7 z12 t7 => ?_), fun z => by omega⟩⟩
      have c7' : ∀ c : Nat, c ≠ 1 → c ≠ 3 → c ≠ 26 → M7 c = M2 c := fun c c1 c3 c26 => by rw [c7 c c3 c26, up_off c1]
      have e8 : M7 1 8 = M2 1 8 := by rw [c7 1 (by decide) (by decide)]; simp [up]
      have e9 : M7 1 9 = M2 1 8 := by rw [c7 1 (by decide) (by decide)]; simp [up]
      refine m_check_pre h hk hx hy cx cy (fun N1 b1 z20 => ⟨1 + t', hM _ N1 0 1 b1 z20 (fun N2 q2 p2 a2 fb2 xe2 => ?_)⟩)
      rw [w_X4_judges_L11, p2, a2]
      refine ⟨fun _ => ⟨r1, m_told r1 q2 (fun M' c' z' w5 w33 w21 => ⟨rfl, ?_⟩)⟩, fun z => absurd (Int.le_refl 0) z⟩
      obtain ⟨⟨⟨y0, y4⟩, yn, yn2, yx, yt⟩, -⟩ := q2.1
      have y24 := q2.2.2.2.1.2.2.2.2.2
      refine rel_after hI s2.1 c7' e8 e9 (Or.inr z12) ⟨by rw [z' 0 (by decide) (by decide)]; exact y0, by rw [z' 4 (by decide) (by decide)]; exact y4, by rw [w5]; exact y4⟩ (fun n n0 n1 => ?_) (fun n n0 n1 => ?_) (fun z z0 z1 => ?_) ⟨by rw [w33, z12], fun _ i i0 i4 => by rw [w21 i i0 i4, t7 i i0 i4]⟩ ?_
      · rw [c' 1 (by decide) (by decide), c' 2 (by decide) (by decide), c' 3 (by decide) (by decide)]
        exact ⟨(yn n n0 n1).1, (yn n n0 n1).2.1, (yn n n0 n1).2.2.1⟩
      · rw [c' 2 (by decide) (by decide), c' 3 (by decide) (by decide)]
        exact yn2 n n0 n1
      · rw [c' 4 (by decide) (by decide), c' 5 (by decide) (by decide), c' 6 (by decide) (by decide)]
        exact yx z z0 z1
      · rw [z' 24 (by decide) (by decide), c' 16 (by decide) (by decide), y24]
        exact ⟨by omega, hk24, SM_16 q2 hK.1⟩
    rw [w_X0_run_L14]
    exact ⟨fun _ => j58, fun _ => ⟨fun _ => j58, fun z => by omega⟩⟩
  · refine hC _ _ M1 0 x y 0 0 s1 o1 (by rw [e19]; exact hx) (by rw [e19]; exact hy) (v1 x) (v1 y) (by show ((0 : Nat) : Int) + dep (vC C x) ≤ 4 + 4 * 0; omega) (by show ((0 : Nat) : Int) + dep (vC C y) ≤ 4 + 4 * 0; omega) (Int.le_refl 0) (by decide) (fun r2 M2 hh => ⟨0 + 1 + t, hh⟩) (fun M2 n2 s2 X2 => ?_)
    have fin : w_X4_check M x y (fun r' M' => -6 = r' ∧ Rel (k + 1) (up M2 1 9 (M2 1 8)) M') := by
      refine m_check_pre h hk hx hy cx cy (fun N1 b1 z20 => ⟨1 + t', hM _ N1 0 1 b1 z20 (fun N2 q2 p2 a2 fb2 => ?_)⟩)
      rw [w_X4_judges_L11, p2, a2]
      refine ⟨fun _ => ⟨Or.inl rfl, ?_⟩, fun z => absurd (Int.le_refl 0) z⟩
      unfold m_tail
      generalize hM1 : up N2 0 5 (N2 0 4) = N3
      have c' : ∀ c : Nat, c ≠ 0 → N3 c = N2 c := fun c cc => by rw [← hM1, up_off cc]
      have z' : ∀ i, i ≠ 5 → N3 0 i = N2 0 i := fun i hi => by rw [← hM1]; simp [up, hi]
      have w5 : N3 0 5 = N2 0 4 := by rw [← hM1]; simp [up]
      obtain ⟨⟨⟨y0, y4⟩, yn, yn2, yx, yt⟩, q23, q24, q16⟩ := q2
      refine ⟨fun z => ?_, fun _ => ⟨rfl, ?_⟩⟩
      · rw [z' 23 (by decide), q23] at z
        exact absurd z (by decide)
      · have e312 : (up M2 1 9 (M2 1 8)) 3 12 = C 3 12 := by rw [up_off (by decide)]; exact X2.2.2.1
        have e26 : (up M2 1 9 (M2 1 8)) 26 = C 26 := by rw [up_off (by decide)]; exact X2.1 26 (by omega)
        refine rel_after hI X2 (fun c c1 _ _ => up_off c1) (by simp [up]) (by simp [up]) (by rw [e312]; exact hI.2.2.2.2.2) ⟨by rw [z' 0 (by decide)]; exact y0, by rw [z' 4 (by decide)]; exact y4, by rw [w5]; exact y4⟩ (fun n n0 n1 => ?_) (fun n n0 n1 => ?_) (fun z z0 z1 => ?_) ?_ ?_
        · rw [c' 1 (by decide), c' 2 (by decide), c' 3 (by decide)]
          exact ⟨(yn n n0 n1).1, (yn n n0 n1).2.1, (yn n n0 n1).2.2.1⟩
        · rw [c' 2 (by decide), c' 3 (by decide)]
          exact yn2 n n0 n1
        · rw [c' 4 (by decide), c' 5 (by decide), c' 6 (by decide)]
          exact yx z z0 z1
        · rw [e312, e26, z' 33 (by decide), c' 21 (by decide)]
          exact yt
        · rw [z' 24 (by decide), c' 16 (by decide), q24]
          exact ⟨by omega, hk24, q16⟩
    have j58 : w_X0_run_J58 (fun r C' => w_X4_check M x y (fun r' M' => r = r' ∧ Rel (k + 1) C' M')) M2 (-6) := ⟨fun _ => fin, fun _ => ⟨fun z => absurd rfl z, fun _ => fin⟩⟩
    rw [w_X0_run_L14]
    exact ⟨fun _ => j58, fun _ => ⟨fun _ => j58, fun _ => ⟨fun _ => j58, fun z => absurd rfl z⟩⟩⟩
theorem p_check (h : Rel k C M) (hk : k ≤ 900) : w_X3_check C x y (fun r C' => w_X4_check M x y (fun r' M' => r = r' ∧ Rel (k + 1) C' M')) := by
  obtain ⟨⟨r0, r1, r2⟩, -⟩ := h.2
  have t9 := h.1.2.1
  have hTC := h.1.2.2.2.1
  by_cases hx : made C x
  · by_cases hy : made C y
    · have hx0 := hx.1
      have hx1 := hx.2
      have hy0 := hy.1
      have hy1 := hy.2
      have ox := (hTC x hx.1 hx.2).2.2.2.2
      have oy := (hTC y hy.1 hy.2).2.2.2.2
      refine h_made1 hx ⟨fun e => absurd e (by decide), fun _ => h_made1 hy ⟨fun _ => h_closed t9.2.1 hx (fun cx => ⟨fun e => absurd e (by decide), fun _ => h_closed t9.2.1 hy (fun cy => ⟨fun _ => p_run h hk hx hy (by rw [← ox.1, ← ox.2]; exact cx) (by rw [← oy.1, ← oy.2]; exact cy), fun e => absurd e (by decide)⟩) (fun cy => ⟨fun e => absurd rfl e, fun _ => ?_⟩)⟩) (fun cx => ⟨fun _ => ?_, fun e => absurd rfl e⟩), fun e => absurd e (by decide)⟩⟩
      · refine m_isTerm (by omega) (fun _ => ⟨fun e => absurd e (by decide), fun _ => m_isTerm (by omega) (fun _ => ⟨fun _ => ?_, fun e => absurd e (by decide)⟩) (fun z => absurd (by omega) z)⟩) (fun z => absurd (by omega) z)
        refine m_closed (Rel_TM h) hx (Rel_siz h hx.1 hx.2) (fun _ M9 g9 => ⟨fun e => absurd e (by decide), fun _ => ?_⟩) (fun z => absurd (by rw [Rel_vM h hx.2, ← ox.1, ← ox.2]; exact cx) z)
        have R9 : Rel k C M9 := ⟨h.1, h.2.keep (gsame_keeps g9)⟩
        exact m_closed (Rel_TM R9) hy (Rel_siz R9 hy.1 hy.2) (fun z => absurd (by rw [Rel_vM R9 hy.2, ← oy.1, ← oy.2] at z; exact z) cy) (fun _ M13 g13 => ⟨fun e => absurd rfl e, fun _ => ⟨rfl, R9.keep (gsame_keeps g13)⟩⟩)
      · refine m_isTerm (by omega) (fun _ => ⟨fun e => absurd e (by decide), fun _ => m_isTerm (by omega) (fun _ => ⟨fun _ => ?_, fun e => absurd e (by decide)⟩) (fun z => absurd (by omega) z)⟩) (fun z => absurd (by omega) z)
        exact m_closed (Rel_TM h) hx (Rel_siz h hx.1 hx.2) (fun z => absurd (by rw [Rel_vM h hx.2, ← ox.1, ← ox.2] at z; exact z) cx) (fun _ M9 g9 => ⟨fun _ => ⟨rfl, h.keep (gsame_keeps g9)⟩, fun e => absurd rfl e⟩)
    · have hx0 := hx.1
      have hx1 := hx.2
      unfold made at hy
      exact h_made1 hx ⟨fun e => absurd e (by decide), fun _ => h_made0 hy ⟨fun e => absurd rfl e, fun _ => m_isTerm (by omega) (fun _ => ⟨fun e => absurd e (by decide), fun _ => m_isTerm (by omega) (fun z => absurd (by omega) hy) (fun _ => ⟨fun e => absurd rfl e, fun _ => ⟨rfl, h.up1⟩⟩)⟩) (fun z => absurd (by omega) z)⟩⟩
  · unfold made at hx
    exact h_made0 hx ⟨fun _ => m_isTerm (by omega) (fun z => absurd (by omega) hx) (fun _ => ⟨fun _ => ⟨rfl, h.up1⟩, fun e => absurd rfl e⟩), fun e => absurd rfl e⟩
end H
