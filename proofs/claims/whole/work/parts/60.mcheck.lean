/-! check, side by side -/
def m_tail (Q : Int → Mem → Prop) (r23 : Int) (M22 : Mem) : Prop := ((((up M22 0 5 (M22 0 4)) 0 23) = 0 → ((0 ≤ (0 : Int) ∧ (0 : Int) < 5) ∧ (0 ≤ (1 : Int) ∧ (1 : Int) < 5) ∧ ((r23 = 0 → (w_X4_check_J141 Q (up (up (up M22 0 5 (M22 0 4)) 21 0 ((up M22 0 5 (M22 0 4)) 0 19)) 21 1 ((up (up M22 0 5 (M22 0 4)) 21 0 ((up M22 0 5 (M22 0 4)) 0 19)) 0 20)) r23 2 ((up (up (up M22 0 5 (M22 0 4)) 21 0 ((up M22 0 5 (M22 0 4)) 0 19)) 21 1 ((up (up M22 0 5 (M22 0 4)) 21 0 ((up M22 0 5 (M22 0 4)) 0 19)) 0 20)) 0 21))) ∧ (¬ r23 = 0 → (w_X4_check_J141 Q (up (up (up M22 0 5 (M22 0 4)) 21 0 ((up M22 0 5 (M22 0 4)) 0 19)) 21 1 ((up (up M22 0 5 (M22 0 4)) 21 0 ((up M22 0 5 (M22 0 4)) 0 19)) 0 20)) r23 2 (-9)))))) ∧ (¬ ((up M22 0 5 (M22 0 4)) 0 23) = 0 → (Q (-6) (up M22 0 5 (M22 0 4)))))
def tld (σ : SG) (r i : Int) : Int := if i = 0 then σ.2.1 else if i = 1 then σ.2.2.1 else if i = 2 then (if r = 1 then -9 else σ.2.2.2.1) else if i = 3 then (if r = 1 then -9 else σ.2.2.2.2) else r
section H
variable {k : Int} {C M : Mem} {x y r K : Int} {σ : SG}
/-- the reference's judging begins -/
theorem m_check_pre {P : Int → Mem → Prop} (h : Rel k C M) (hk : k ≤ 900) (hx : made C x) (hy : made C y) (cx : occ 100 (vC C x) = 0 ∧ occ 101 (vC C x) = 0) (cy : occ 100 (vC C y) = 0 ∧ occ 101 (vC C y) = 0)
    (kk : ∀ M1, BM C (M 0 24 + 1) (vC C x) (vC C y) σ0 (fun _ _ => False) M1 0 → M1 20 ((0 : Nat) : Int) = 0 → ∃ n, w_X4_judges_L11 (m_tail P) n M1) : w_X4_check M x y P := by
  obtain ⟨⟨r0, r1, r2⟩, hn, hn2, hxx, ht, hc0, hc1, hc2⟩ := h.2
  have t9 := h.1.2.1
  have hx0 := hx.1
  have hx1 := hx.2
  have hy0 := hy.1
  have hy1 := hy.2
  refine m_isTerm (by omega) (fun _ => ⟨fun e => absurd e (by decide), fun _ => m_isTerm (by omega) (fun _ => ⟨fun _ => ?_, fun e => absurd e (by decide)⟩) (fun z => absurd (by omega) z)⟩) (fun z => absurd (by omega) z)
  refine m_closed (Rel_TM h) hx (Rel_siz h hx.1 hx.2) (fun _ M9 g9 => ⟨fun e => absurd e (by decide), fun _ => ?_⟩) (fun z => absurd (by rw [Rel_vM h hx.2]; exact cx) z)
  have R9 : Rel k C M9 := ⟨h.1, h.2.keep (gsame_keeps g9)⟩
  refine m_closed (Rel_TM R9) hy (Rel_siz R9 hy.1 hy.2) (fun _ M13 g13 => ⟨fun _ => ?_, fun e => absurd e (by decide)⟩) (fun z => absurd (by rw [Rel_vM R9 hy.2]; exact cy) z)
  have R13 : Rel k C M13 := ⟨h.1, R9.2.keep (gsame_keeps g13)⟩
  refine m_findNames R13 (fun M17 k17 a17 => ?_)
  have kp : keeps M M17 := ((gsame_keeps g9).tr (gsame_keeps g13)).tr k17
  have R17 : Rel k C M17 := ⟨h.1, h.2.keep kp⟩
  have e24 : (up (up (up (up (up M17 0 19 0) 0 20 0) 0 21 (-9)) 0 22 (-9)) 0 23 0) 0 24 = M 0 24 := by
    rw [← kp.2 24 (by omega)]
    simp [up]
  rw [e24]
  refine ⟨by unfold rg; omega, ?_⟩
  generalize hM0 : up (up (up (up (up (up M17 0 19 0) 0 20 0) 0 21 (-9)) 0 22 (-9)) 0 23 0) 0 24 (M 0 24 + 1) = M0
  have c0 : ∀ c : Nat, c ≠ 0 → M0 c = M17 c := fun c cc => by rw [← hM0, up_off cc, up_off cc, up_off cc, up_off cc, up_off cc, up_off cc]
  have z0 : ∀ i, ¬ (19 ≤ i ∧ i ≤ 24) → M0 0 i = M17 0 i := fun i hi => by
    have h1 : i ≠ 19 := by omega
    have h2 : i ≠ 20 := by omega
    have h3 : i ≠ 21 := by omega
    have h4 : i ≠ 22 := by omega
    have h5 : i ≠ 23 := by omega
    have h6 : i ≠ 24 := by omega
    rw [← hM0]
    simp [up, h1, h2, h3, h4, h5, h6]
  obtain ⟨⟨s0, s1, s2⟩, sn, sn2, sx, st, sc0, sc1, sc2⟩ := R17.2
  have hs : mside M17 M0 := ⟨fun c hc => c0 c (by omega), fun i hi => z0 i (by omega)⟩
  have X17 : XM C M17 := by
    refine ⟨⟨⟨s0, s1⟩, fun n n0 n1 => ⟨(sn n n0 n1).1, (sn n n0 n1).2.1, (sn n n0 n1).2.2, (a17 n n0 n1).1⟩, sn2, sx, st⟩, by rw [s2]; exact Rel_TM R17, by omega, fun z z0 z1 => ?_⟩
    rw [s2] at z1
    rw [(sx z z0 z1).2.2.2]
    have := (tc_range (h.1.2.2.2.1 z z0 z1)).1
    omega
  have X0 := XM_side hs X17
  have K24 : M17 0 24 = M 0 24 := kp.2 24 (by omega)
  have m16 : ∀ i, 0 ≤ i → i < 547600 → mc (M 0 24 + 1) 0 (M0 16 i) := fun i i0 i1 => by
    rw [c0 16 (by decide)]
    have := sc2 i i0 i1
    exact ⟨fun _ => by omega, fun z => absurd rfl z⟩
  have S0 : SM C (M 0 24 + 1) σ0 (fun _ _ => False) M0 := by
    have e5 : M0 0 5 = C 1 8 := by rw [z0 5 (by omega)]; exact s2
    refine ⟨X0, by show M0 0 5 ≤ 90 + 15 * 0; omega, ⟨Int.le_refl 0, by decide⟩, ⟨by rw [← hM0]; simp [up, σ0], by rw [← hM0]; simp [up, σ0], by rw [← hM0]; simp [up, σ0], by rw [← hM0]; simp [up, σ0], by rw [← hM0]; simp [up], by rw [← hM0]; simp [up]⟩, fun a b a0 a1 b0 b1 => m16 _ (by omega) (by omega), fun a b a0 a1 b0 b1 _ => m16 _ (by omega) (by omega), fun p r z => absurd rfl z, [], List.nodup_nil, rfl, fun n hn => absurd hn List.not_mem_nil⟩
  refine m_goesTo (e := 0) (by simp [up]) (by omega) (fun M1 kc k0 k27 k18 k19 k20 => ?_)
  have hs1 : mside M0 M1 := ⟨fun c hcc => by rw [kc c (by omega) (by omega) (by omega) (by omega), up_off (by omega)], fun i hi => by
    have : i ≠ 27 := by omega
    rw [k0 i this]
    simp [up, this]⟩
  have S1 : SM C (M 0 24 + 1) σ0 (fun _ _ => False) M1 := SM_side S0 hs1 (by rw [kc 16 (by decide) (by decide) (by decide) (by decide), up_off (by decide)]) (fun i i0 i1 => by
    have : i ≠ 27 := by omega
    rw [k0 i this]
    simp [up, this])
  have e5 : M1 0 5 = C 1 8 := by rw [hs1.2 5 (by omega), z0 5 (by omega)]; exact s2
  have e18 : M1 18 ((0 : Nat) : Int) = x := by rw [k18]; rfl
  have e19 : M1 19 ((0 : Nat) : Int) = y := by rw [k19]; rfl
  have e20 : M1 20 ((0 : Nat) : Int) = 0 := by rw [k20]; rfl
  have dp : ∀ z, made C z → dep (vC C z) ≤ 4 := fun z hz => by
    have := h.1.2.2.2.1 z hz.1 hz.2
    have h1 := this.1
    have h2 := this.2.1
    omega
  refine kk M1 ⟨S1, by rw [k27]; rfl, by rw [e18]; omega, by rw [e19]; omega, by rw [e18]; exact XM_vM h.1 S1.1 hx.2, by rw [e19]; exact XM_vM h.1 S1.1 hy.2, ?_, ?_⟩ e20
  · have := dp x hx
    show ((0 : Nat) : Int) + dep (vC C x) ≤ 4 + 4 * 0
    omega
  · have := dp y hy
    show ((0 : Nat) : Int) + dep (vC C y) ≤ 4 + 4 * 0
    omega
/-- what the reference tells -/
theorem m_told {P : Int → Mem → Prop} (hr : r = 0 ∨ r = 1) (h : SM C K σ (fun _ _ => False) M) (q : ∀ M' : Mem, (∀ c : Nat, c ≠ 0 → c ≠ 21 → M' c = M c) → (∀ i, i ≠ 5 → i ≠ 33 → M' 0 i = M 0 i) → M' 0 5 = M 0 4 → M' 0 33 = 1 → (∀ i, 0 ≤ i → i ≤ 4 → M' 21 i = tld σ r i) → P r M') : m_tail P r M := by
  obtain ⟨g19, g20, g21, g22, g23, g24⟩ := h.2.2.2.1
  unfold m_tail
  generalize hM1 : up M 0 5 (M 0 4) = M1
  have c1 : ∀ c : Nat, c ≠ 0 → M1 c = M c := fun c cc => by rw [← hM1, up_off cc]
  have z1 : ∀ i, i ≠ 5 → M1 0 i = M 0 i := fun i hi => by rw [← hM1]; simp [up, hi]
  have z5 : M1 0 5 = M 0 4 := by rw [← hM1]; simp [up]
  have a0 : (up M1 21 0 (M1 0 19)) 0 20 = σ.2.2.1 := by rw [up_off (by decide), z1 20 (by decide), g20]
  refine ⟨fun _ => ⟨by decide, by decide, ?_⟩, fun z => absurd (by rw [z1 23 (by decide)]; exact g23) z⟩
  rw [a0, z1 19 (by decide), g19]
  generalize hM2 : up (up M1 21 0 σ.2.1) 21 1 σ.2.2.1 = M2
  have c2 : ∀ c : Nat, c ≠ 21 → M2 c = M1 c := fun c cc => by rw [← hM2, up_off cc, up_off cc]
  have w21 : M2 0 21 = σ.2.2.2.1 := by rw [c2 0 (by decide), z1 21 (by decide), g21]
  rw [w21]
  have fin : ∀ a b : Int, (a = if r = 1 then -9 else σ.2.2.2.1) → (b = if r = 1 then -9 else σ.2.2.2.2) → P r (up (up (up (up M2 21 2 a) 21 3 b) 21 4 r) 0 33 1) := by
    intro a b ea eb
    refine q _ (fun c c0 c21 => by rw [up_off c0, up_off c21, up_off c21, up_off c21, c2 c c21, c1 c c0]) (fun i i5 i33 => ?_) ?_ (by simp [up]) (fun i i0 i4 => ?_)
    · have := z1 i i5
      rw [← this, ← c2 0 (by decide)]
      simp [up, i33]
    · rw [← z5, ← c2 0 (by decide)]
      simp [up]
    · unfold tld
      rw [← ea, ← eb, ← hM2]
      have hi : i = 0 ∨ i = 1 ∨ i = 2 ∨ i = 3 ∨ i = 4 := by omega
      rcases hi with e | e | e | e | e <;> subst e <;> simp [up]
  rcases hr with e | e
  · subst e
    refine ⟨fun _ => ⟨by decide, fun _ => ?_, fun z => absurd rfl z⟩, fun z => absurd rfl z⟩
    have w22 : (up M2 21 2 σ.2.2.2.1) 0 22 = σ.2.2.2.2 := by rw [up_off (by decide), c2 0 (by decide), z1 22 (by decide), g22]
    rw [w22]
    refine ⟨by decide, fun _ => ⟨by decide, by decide, ?_⟩, fun z => absurd rfl z⟩
    have := fin σ.2.2.2.1 σ.2.2.2.2 rfl rfl
    have e4 : (up (up (up (up M2 21 2 σ.2.2.2.1) 21 3 σ.2.2.2.2) 21 4 0) 0 33 1) 21 4 = 0 := by simp [up]
    rw [e4]
    exact this
  · subst e
    refine ⟨fun z => absurd z (by decide), fun _ => ⟨by decide, fun z => absurd z (by decide), fun _ => ⟨by decide, fun z => absurd z (by decide), fun _ => ⟨by decide, by decide, ?_⟩⟩⟩⟩
    have := fin (-9) (-9) rfl rfl
    have e4 : (up (up (up (up M2 21 2 (-9)) 21 3 (-9)) 21 4 1) 0 33 1) 21 4 = 1 := by simp [up]
    rw [e4]
    exact this
end H
