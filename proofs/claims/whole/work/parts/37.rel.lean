/-! class and reference side by side -/
def RelM (k : Int) (C M : Mem) : Prop :=
  (M 0 0 = C 2 7 ∧ M 0 4 = C 1 8 ∧ M 0 5 = C 1 8) ∧
  (∀ n, 0 ≤ n → n < C 2 7 → M 1 n = C 12 n ∧ M 2 n = C 13 n ∧ M 3 n = C 14 n) ∧
  (∀ n, C 2 7 ≤ n → n < 12 → M 2 n = -9 ∧ M 3 n = 0) ∧
  (∀ x, 0 ≤ x → x < C 1 8 → M 4 x = C 4 x ∧ M 5 (2 * x) = C 5 x ∧ M 5 (2 * x + 1) = C 6 x ∧ M 6 x = C 7 x) ∧
  (M 0 33 = C 3 12 ∧ (C 3 12 ≠ 0 → ∀ i, 0 ≤ i → i ≤ 4 → M 21 i = C 26 i)) ∧
  (0 ≤ M 0 24 ∧ M 0 24 ≤ k ∧ ∀ i, 0 ≤ i → i < 547600 → 0 ≤ M 16 i ∧ M 16 i ≤ 2 * M 0 24 + 1)
def Rel (k : Int) (C M : Mem) : Prop := InvC C ∧ RelM k C M
theorem RelM.mono {k k' : Int} {C M : Mem} (h : RelM k C M) (hk : k ≤ k') : RelM k' C M := by
  obtain ⟨h1, h2, h3, h4, h5, h6, h7, h8⟩ := h
  exact ⟨h1, h2, h3, h4, h5, h6, by omega, h8⟩
theorem RelM.keep {k : Int} {C M M' : Mem} (h : RelM k C M) (hk : keeps M M') : RelM k C M' := by
  unfold RelM
  rw [hk.2 0 (by omega), hk.2 4 (by omega), hk.2 5 (by omega), hk.2 33 (by omega), hk.2 24 (by omega), hk.1 1 (by omega), hk.1 2 (by omega), hk.1 3 (by omega), hk.1 4 (by omega), hk.1 5 (by omega), hk.1 6 (by omega), hk.1 16 (by omega), hk.1 21 (by omega)]
  exact h
theorem Rel.up1 {k : Int} {C M : Mem} (h : Rel k C M) : Rel (k + 1) C M := ⟨h.1, h.2.mono (by omega)⟩
theorem Rel.keep {k : Int} {C M M' : Mem} (h : Rel k C M) (hk : keeps M M') : Rel (k + 1) C M' := ⟨h.1, (h.2.keep hk).mono (by omega)⟩
theorem Rel_TM {k : Int} {C M : Mem} (h : Rel k C M) : TM M (C 1 8) := by
  obtain ⟨⟨hB, ⟨t0, t9, th⟩, hT, hTC, hNC, hb⟩, ⟨r0, r1, r2⟩, hn, hn2, hx, -⟩ := h
  have h12 := hB.2.1
  have h00 := hB.1
  refine ⟨⟨fun x x0 x1 => ?_, fun x y x0 x1 y0 y1 e1 e2 e3 => ?_⟩, by omega, by omega, fun n n0 n1 => ?_⟩
  · obtain ⟨a1, a2, a3, -⟩ := hx x x0 x1
    have hf := hT.fr x0 x1 h12
    unfold tnode
    rw [pv4, pv5, pv6, pv2, pv12, a1, a2, a3, r0]
    rcases hT.1 x x0 x1 with h | h
    · exact Or.inl h
    · refine Or.inr ?_
      rw [(hn (C 4 x) h.1.1 h.1.2).1]
      exact h
  · obtain ⟨a1, a2, a3, -⟩ := hx x x0 x1
    obtain ⟨b1, b2, b3, -⟩ := hx y y0 y1
    rw [pv4, pv4, a1, b1] at e1
    rw [pv5, pv5, a2, b2] at e2
    rw [pv6, pv6, a3, b3] at e3
    exact hT.2 x y x0 x1 y0 y1 e1 e2 e3
  · rw [r0] at n1
    rw [(hn n n0 n1).1]
    exact (hB.2.2 n n0 n1).1
theorem Rel_vM {k : Int} {C M : Mem} (h : Rel k C M) {x : Int} (hx : x < C 1 8) : vM M x = vC C x :=
  vC_ext h.1.2.2.1 (fun y y0 y1 => ⟨(h.2.2.2.2.1 y y0 y1).1, (h.2.2.2.2.1 y y0 y1).2.1, (h.2.2.2.2.1 y y0 y1).2.2.1⟩) hx
theorem Rel_siz {k : Int} {C M : Mem} (h : Rel k C M) {x : Int} (h0 : 0 ≤ x) (hx : x < C 1 8) : siz (vM M x) ≤ 15 := by
  rw [Rel_vM h hx, ← (h.1.2.2.2.1 x h0 hx).2.2.1]
  exact (tc_range (h.1.2.2.2.1 x h0 hx)).2.1.2
section H
variable {k : Int} {C M : Mem} {n x y a b : Int}
theorem p_name (h : Rel k C M) : w_X3_name C a (fun r C' => w_X4_name M a (fun r' M' => r = r' ∧ Rel (k + 1) C' M')) := by
  obtain ⟨⟨r0, r1, r2⟩, hn, hn2, hx, ht, hc⟩ := h.2
  have hB := h.1.1
  refine c_name h.1 (fun z => ?_) (fun z z2 => ?_) (fun z z2 C' hI hs e1 e2 e3 => ?_)
  · exact m_within (fun q => absurd q z) (fun q => ⟨fun e => absurd rfl e, fun _ => ⟨rfl, h.up1⟩⟩)
  · exact m_within (fun q => ⟨fun _ => ⟨fun e => absurd (by omega) e, fun _ => ⟨rfl, h.up1⟩⟩, fun e => absurd e (by decide)⟩) (fun q => absurd z q)
  · refine m_within (fun q => ⟨fun _ => ⟨fun _ => ?_, fun e => by omega⟩, fun e => absurd e (by decide)⟩) (fun q => absurd z q)
    rw [r0]
    have h00 := hB.1
    have s1 : (up M 1 (C 2 7) a) 0 0 = C 2 7 := by rw [up_off (by decide)]; exact r0
    rw [s1]
    have s2 : (up (up M 1 (C 2 7) a) 0 0 (C 2 7 + 1)) 0 0 = C 2 7 + 1 := by simp [up]
    rw [s2]
    refine ⟨by omega, by unfold rg; omega, by unfold rg; omega, by omega, hI, ?_⟩
    generalize hM2 : up (up M 1 (C 2 7) a) 0 0 (C 2 7 + 1) = M2
    have k0 : ∀ i, i ≠ 0 → M2 0 i = M 0 i := fun i hi => by rw [← hM2]; simp [up, hi]
    have kc : ∀ c, c ≠ 0 → c ≠ 1 → M2 c = M c := fun c c0 c1 => by rw [← hM2, up_off c0, up_off c1]
    have k1 : ∀ i, M2 1 i = if i = C 2 7 then a else M 1 i := fun i => by rw [← hM2]; simp [up]
    have s2' : M2 0 0 = C 2 7 + 1 := by rw [← hM2]; exact s2
    have c1 : C' 1 = C 1 := hs 1 (by omega)
    have c3 : C' 3 = C 3 := hs 3 (by omega)
    refine ⟨⟨by omega, by rw [k0 4 (by decide), c1]; exact r1, by rw [k0 5 (by decide), c1]; exact r2⟩, fun m m0 m1 => ?_, fun m m0 m1 => ?_, fun y y0 y1 => ?_, ?_, ?_⟩
    · rw [k1, kc 2 (by decide) (by decide), kc 3 (by decide) (by decide)]
      by_cases e : m = C 2 7
      · rw [if_pos e, e, e2.1, e2.2.1, e2.2.2]
        have := hn2 (C 2 7) (by omega) (by omega)
        exact ⟨rfl, this.1, this.2⟩
      · rw [if_neg e, (e3 m e).1, (e3 m e).2.1, (e3 m e).2.2]
        exact hn m m0 (by omega)
    · rw [kc 2 (by decide) (by decide), kc 3 (by decide) (by decide)]
      exact hn2 m (by omega) m1
    · rw [kc 4 (by decide) (by decide), kc 5 (by decide) (by decide), kc 6 (by decide) (by decide), hs 4 (by omega), hs 5 (by omega), hs 6 (by omega), hs 7 (by omega)]
      rw [c1] at y1
      exact hx y y0 y1
    · rw [k0 33 (by decide), kc 21 (by decide) (by decide), c3, hs 26 (by omega)]
      exact ht
    · rw [k0 24 (by decide), kc 16 (by decide) (by decide)]
      exact ⟨hc.1, by omega, hc.2.2⟩
theorem dC_dM (h : Rel k C M) (ha : a = -9 ∨ (0 ≤ a ∧ a < C 1 8)) : dM M a = dC C a ∧ dok M a := by
  have t9 := h.1.2.1.2.1
  unfold dM dC dok
  rcases ha with ha | ha
  · rw [if_pos ha, if_neg (by omega)]
    exact ⟨rfl, Or.inl ha⟩
  · have e := (h.2.2.2.2.1 a ha.1 ha.2).2.2.2
    have r := (tc_range (h.1.2.2.2.1 a ha.1 ha.2)).1
    rw [if_neg (by omega), if_pos ha]
    exact ⟨e, Or.inr ⟨by omega, by omega⟩⟩
/-- makes, beside numberOf -/
theorem p_makes {f : Int} {Q : Int → Mem → Prop} (h : Rel k C M) (hv : vnode C f a b)
    (q1 : ∀ x, 0 ≤ x → x < C 1 8 → C 4 x = f → C 5 x = a → C 6 x = b → Q x (up M 0 4 (M 0 5)))
    (q2 : (∀ x, 0 ≤ x → x < C 1 8 → ¬ (C 4 x = f ∧ C 5 x = a ∧ C 6 x = b)) → C 1 8 = 90 → Q (-4) M)
    (q3 : (∀ x, 0 ≤ x → x < C 1 8 → ¬ (C 4 x = f ∧ C 5 x = a ∧ C 6 x = b)) → C 1 8 < 90 → ∀ M', grownM M M' f a b → Q (C 1 8) (up M' 0 4 (M' 0 5))) : w_X4_makes M f a b Q := by
  obtain ⟨⟨r0, r1, r2⟩, hn, hn2, hx, ht, hc⟩ := h.2
  obtain ⟨t0, t9, th⟩ := h.1.2.1
  obtain ⟨pa, pb, pf⟩ := hv.parts h.1.1
  have mt : ∀ x, 0 ≤ x → x < C 1 8 → (mat M x f a b ↔ C 4 x = f ∧ C 5 x = a ∧ C 6 x = b) := fun x x0 x1 => by
    obtain ⟨a1, a2, a3, -⟩ := hx x x0 x1
    unfold mat
    rw [a1, a2, a3]
  have da := (dC_dM h pa).2
  have db := (dC_dM h pb).2
  have j24 : C 1 8 < 90 ∨ (∃ x, 0 ≤ x ∧ x < C 1 8 ∧ mat M x f a b) → w_X4_makes_J24 Q M f a b := fun hor => by
    refine m_comes (by omega) (by omega) da db (by omega) (by omega) (fun x x0 x1 hm => ?_) (fun hno M' hg => ?_)
    · rw [r2] at x1
      have := (mt x x0 x1).mp hm
      exact q1 x x0 x1 this.1 this.2.1 this.2.2
    · have hno' : ∀ x, 0 ≤ x → x < C 1 8 → ¬ (C 4 x = f ∧ C 5 x = a ∧ C 6 x = b) := fun x x0 x1 hm => hno x x0 (by omega) ((mt x x0 x1).mpr hm)
      have hl : C 1 8 < 90 := by
        rcases hor with h | ⟨x, x0, x1, hm⟩
        · exact h
        · exact absurd hm (hno x x0 (by omega))
      rw [r2]
      exact q3 hno' hl M' hg
  refine m_find (by omega) (by omega) (fun x x0 x1 hm => ?_) (fun hno => ?_)
  · exact ⟨fun _ => j24 (Or.inr ⟨x, x0, by omega, hm⟩), fun z => by omega⟩
  · refine ⟨fun z => absurd rfl z, fun _ => ⟨fun z => j24 (Or.inl (by omega)), fun z => ?_⟩⟩
    exact q2 (fun x x0 x1 hm => hno x x0 (by omega) ((mt x x0 x1).mpr hm)) (by omega)
theorem rel_same (h : Rel k C M) : Rel (k + 1) C (up M 0 4 (M 0 5)) := by
  obtain ⟨r0, r1, r2⟩ := h.2.1
  refine h.keep ⟨fun c hc => up_off (by omega), fun i hi => ?_⟩
  rw [up_at]
  show (if i = 4 then M 0 5 else M 0 i) = M 0 i
  by_cases e : i = 4
  · rw [if_pos e, e, r1, r2]
  · rw [if_neg e]
theorem rel_grown {f : Int} {C' M' : Mem} (h : Rel k C M) (hv : vnode C f a b) (hI : InvC C') (hg : grown C C' f a b) (hm : grownM M M' f a b) : Rel (k + 1) C' (up M' 0 4 (M' 0 5)) := by
  obtain ⟨⟨r0, r1, r2⟩, hn, hn2, hx, ht, hc⟩ := h.2
  obtain ⟨t0, t9, th⟩ := h.1.2.1
  obtain ⟨pa, pb, pf⟩ := hv.parts h.1.1
  obtain ⟨⟨g1, g1'⟩, ⟨g2, g3, g4⟩, g5, g6, g7, -⟩ := hg
  obtain ⟨m1, m2, m3, m4, m5, m6⟩ := hm
  have e2 : C' 2 = C 2 := g6 2 (by omega)
  have e3 : C' 3 = C 3 := g6 3 (by omega)
  have kc : ∀ c, c ≠ 0 → (up M' 0 4 (M' 0 5)) c = M' c := fun c c0 => up_off c0
  have k0 : ∀ i, i ≠ 4 → (up M' 0 4 (M' 0 5)) 0 i = M' 0 i := fun i hi => by simp [up, hi]
  have k4 : (up M' 0 4 (M' 0 5)) 0 4 = C 1 8 + 1 := by simp [up]; omega
  generalize up M' 0 4 (M' 0 5) = M2 at kc k0 k4
  refine ⟨hI, ⟨by rw [k0 0 (by decide), m2 0 (by decide), e2]; exact r0, by omega, by rw [k0 5 (by decide)]; omega⟩, fun m x0 x1 => ?_, fun m x0 x1 => ?_, fun y y0 y1 => ?_, ?_, ?_⟩
  · rw [e2] at x1
    rw [kc 1 (by decide), kc 2 (by decide), kc 3 (by decide), m3 1 (by decide) (by decide) (by decide) (by decide), m3 2 (by decide) (by decide) (by decide) (by decide), m3 3 (by decide) (by decide) (by decide) (by decide), g6 12 (by omega), g6 13 (by omega), g6 14 (by omega)]
    exact hn m x0 x1
  · rw [e2] at x0
    rw [kc 2 (by decide), kc 3 (by decide), m3 2 (by decide) (by decide) (by decide) (by decide), m3 3 (by decide) (by decide) (by decide) (by decide)]
    exact hn2 m x0 x1
  · rw [kc 4 (by decide), kc 5 (by decide), kc 6 (by decide), m4, m5, m5, m6, r2]
    by_cases e : y = C 1 8
    · rw [if_pos e, if_neg (by omega), if_pos (by omega), if_pos (by omega), if_pos e, e, g2, g3, g4, g7, (dC_dM h pa).1, (dC_dM h pb).1]
      exact ⟨rfl, rfl, rfl, rfl⟩
    · rw [if_neg e, if_neg (by omega), if_neg (by omega), if_neg (by omega), if_neg (by omega), if_neg e]
      obtain ⟨z4, z5, z6, z7, -⟩ := g5 y e
      rw [z4, z5, z6, z7]
      exact hx y y0 (by omega)
  · rw [k0 33 (by decide), m2 33 (by decide), kc 21 (by decide), m3 21 (by decide) (by decide) (by decide) (by decide), e3, g6 26 (by omega)]
    exact ht
  · rw [k0 24 (by decide), m2 24 (by decide), kc 16 (by decide), m3 16 (by decide) (by decide) (by decide) (by decide)]
    exact ⟨hc.1, by omega, hc.2.2⟩
theorem uniq_num (hI : InvC C) {f x y : Int} (x0 : 0 ≤ x) (x1 : x < C 1 8) (y0 : 0 ≤ y) (y1 : y < C 1 8) (hx : C 4 x = f ∧ C 5 x = a ∧ C 6 x = b) (hy : C 4 y = f ∧ C 5 y = a ∧ C 6 y = b) : x = y :=
  hI.2.2.1.2 x y x0 x1 y0 y1 (by rw [hx.1, hy.1]) (by rw [hx.2.1, hy.2.1]) (by rw [hx.2.2, hy.2.2])
theorem p_parameter (h : Rel k C M) : w_X3_parameter C a (fun r C' => w_X4_parameter M a (fun r' M' => r = r' ∧ Rel (k + 1) C' M')) := by
  have hv : 0 ≤ a ∧ a ≤ 1 → vnode C (100 + a) (-9) (-9) := fun ha => Or.inl ⟨by omega, rfl, rfl⟩
  have t9 := h.1.2.1
  refine c_parameter h.1 (fun z => ?_) (fun z x x0 x1 e1 e2 e3 => ?_) (fun z hno h90 => ?_) (fun z hno hl C' hI hg => ?_)
  · exact m_within (fun q => absurd q z) (fun q => ⟨fun _ => ⟨rfl, h.up1⟩, fun e => absurd rfl e⟩)
  · refine m_within (fun q => ⟨fun e => absurd e (by decide), fun _ => ⟨by unfold rg; omega, p_makes h (hv z) (fun y y0 y1 d1 d2 d3 => ⟨uniq_num h.1 x0 x1 y0 y1 ⟨e1, e2, e3⟩ ⟨d1, d2, d3⟩, rel_same h⟩) (fun hno => absurd ⟨e1, e2, e3⟩ (hno x x0 x1)) (fun hno => absurd ⟨e1, e2, e3⟩ (hno x x0 x1))⟩⟩) (fun q => absurd z q)
  · refine m_within (fun q => ⟨fun e => absurd e (by decide), fun _ => ⟨by unfold rg; omega, p_makes h (hv z) (fun y y0 y1 d1 d2 d3 => absurd ⟨d1, d2, d3⟩ (hno y y0 y1)) (fun _ _ => ⟨rfl, h.up1⟩) (fun _ hl => by omega)⟩⟩) (fun q => absurd z q)
  · refine m_within (fun q => ⟨fun e => absurd e (by decide), fun _ => ⟨by unfold rg; omega, p_makes h (hv z) (fun y y0 y1 d1 d2 d3 => absurd ⟨d1, d2, d3⟩ (hno y y0 y1)) (fun _ _ => by omega) (fun _ _ M' hm => ⟨rfl, rel_grown h (hv z) hI hg hm⟩)⟩⟩) (fun q => absurd z q)
end H
