/-! term, define, opaque, ofTerm, checked side by side -/
section H
variable {k : Int} {C M : Mem} {n x y a b : Int} {Q : Int → Mem → Prop}
theorem m_term (h : Rel k C M) (qU : tUnk C n a b → Q (-1) M) (qO : ¬ tUnk C n a b → tOut C n a b → Q (-2) M) (qS : ¬ tUnk C n a b → ¬ tOut C n a b → 4 < 1 + imax (dC C a) (dC C b) → Q (-3) M) (qM : ¬ tUnk C n a b → ¬ tOut C n a b → 1 + imax (dC C a) (dC C b) ≤ 4 → vnode C n a b → w_X4_makes M n a b Q) : w_X4_term M n a b Q := by
  obtain ⟨⟨r0, r1, r2⟩, hn, hn2, hx, ht, hc⟩ := h.2
  obtain ⟨t0, t9, th⟩ := h.1.2.1
  have hB := h.1.1
  have h12 := hB.2.1
  have h00 := hB.1
  refine m_isName (by omega) (fun hnm => ⟨fun e => absurd e (by decide), fun _ => ⟨by omega, ?_⟩⟩) (fun hnm => ⟨fun _ => qU (Or.inl (by unfold isnm; omega)), fun e => absurd rfl e⟩)
  have hnm' : isnm C n := by unfold isnm; omega
  have har := (hB.2.2 n hnm'.1 hnm'.2).1
  have ea : M 1 n = C 12 n := (hn n hnm'.1 hnm'.2).1
  have fin : ¬ tUnk C n a b → ¬ tOut C n a b → w_X4_term_J80 Q M n a b := by
    intro hU hO
    have hv : vnode C n a b := by
      unfold tUnk at hU
      unfold tOut at hO
      unfold made at hU
      refine Or.inr ⟨hnm', fun z => ?_, fun z => ?_, fun z => ?_, fun z => ?_⟩ <;> omega
    obtain ⟨pa, pb, pf⟩ := hv.parts hB
    refine m_depthBy (dC_dM h pa).2 (dC_dM h pb).2 ?_
    rw [(dC_dM h pa).1, (dC_dM h pb).1]
    exact ⟨fun hd => qM hU hO hd hv, fun hd => qS hU hO (by omega)⟩
  have j61 : ¬ tUnk C n a b → ¬ (C 12 n < 1 ∧ a ≠ -9) → w_X4_term_J61 Q M n a b := fun hU h1 => by
    unfold w_X4_term_J61
    rw [ea]
    exact ⟨by omega, fun z => fin hU (by unfold tOut; omega), fun z => ⟨fun e => fin hU (by unfold tOut; omega), fun e => qO hU (by unfold tOut; omega)⟩⟩
  have j45 : ¬ tUnk C n a b → w_X4_term_J45 Q M n a b := fun hU => by
    unfold w_X4_term_J45
    rw [ea]
    exact ⟨by omega, fun z => j61 hU (by omega), fun z => ⟨fun e => qO hU (by unfold tOut; omega), fun e => j61 hU (by omega)⟩⟩
  have j25 : ¬ (0 < C 12 n ∧ ¬ made C a) → w_X4_term_J25 Q M n a b := fun h1 => by
    unfold w_X4_term_J25
    rw [ea]
    refine ⟨by omega, fun z => j45 (fun hU => ?_), fun z => m_isTerm (by omega) (fun hm => ⟨fun _ => j45 (fun hU => ?_), fun e => absurd e (by decide)⟩) (fun hm => ⟨fun e => absurd rfl e, fun _ => qU (Or.inr (Or.inr ⟨by omega, by unfold made; omega⟩))⟩)⟩
    · unfold tUnk at hU
      rcases hU with q | q | q
      · exact q hnm'
      · exact h1 q
      · omega
    · unfold tUnk at hU
      rcases hU with q | q | q
      · exact q hnm'
      · exact h1 q
      · exact q.2 (by unfold made; omega)
  rw [ea]
  refine ⟨fun z => j25 (by omega), fun z => m_isTerm (by omega) (fun hm => ⟨fun e => absurd e (by decide), fun _ => j25 (fun q => q.2 (by unfold made; omega))⟩) (fun hm => ⟨fun _ => qU (Or.inr (Or.inl ⟨by omega, by unfold made; omega⟩)), fun e => absurd rfl e⟩)⟩
theorem p_term (h : Rel k C M) : w_X3_term C n a b (fun r C' => w_X4_term M n a b (fun r' M' => r = r' ∧ Rel (k + 1) C' M')) := by
  refine c_term h.1 (fun hU => ?_) (fun hU hO => ?_) (fun hU hO hS => ?_) (fun hU hO hd x x0 x1 e1 e2 e3 => ?_) (fun hU hO hd hno h90 => ?_) (fun hU hO hd hno hl C' hI hv hg => ?_)
  · exact m_term h (fun _ => ⟨rfl, h.up1⟩) (fun z => absurd hU z) (fun z => absurd hU z) (fun z => absurd hU z)
  · exact m_term h (fun z => absurd z hU) (fun _ _ => ⟨rfl, h.up1⟩) (fun _ z => absurd hO z) (fun _ z => absurd hO z)
  · exact m_term h (fun z => absurd z hU) (fun _ z => absurd z hO) (fun _ _ _ => ⟨rfl, h.up1⟩) (fun _ _ z => by omega)
  · exact m_term h (fun z => absurd z hU) (fun _ z => absurd z hO) (fun _ _ z => by omega) (fun _ _ _ hv => p_makes h hv (fun y y0 y1 d1 d2 d3 => ⟨uniq_num h.1 x0 x1 y0 y1 ⟨e1, e2, e3⟩ ⟨d1, d2, d3⟩, rel_same h⟩) (fun hno => absurd ⟨e1, e2, e3⟩ (hno x x0 x1)) (fun hno => absurd ⟨e1, e2, e3⟩ (hno x x0 x1)))
  · exact m_term h (fun z => absurd z hU) (fun _ z => absurd z hO) (fun _ _ z => by omega) (fun _ _ _ hv => p_makes h hv (fun y y0 y1 d1 d2 d3 => absurd ⟨d1, d2, d3⟩ (hno y y0 y1)) (fun _ _ => ⟨rfl, h.up1⟩) (fun _ hl => by omega))
  · exact m_term h (fun z => absurd z hU) (fun _ z => absurd z hO) (fun _ _ z => by omega) (fun _ _ _ hv => p_makes h hv (fun y y0 y1 d1 d2 d3 => absurd ⟨d1, d2, d3⟩ (hno y y0 y1)) (fun _ _ => by omega) (fun _ _ M' hm => ⟨rfl, rel_grown h hv hI hg hm⟩))
/-- one of a name's marks changes in both -/
theorem rel_mark {C' M' : Mem} {c0 m0 : Nat} {v : Int} (h : Rel k C M) (hI : InvC C') (hnm : isnm C n) (hs : nsame C C') (e2 : C' 2 = C 2) (e12 : C' 12 = C 12) (e13 : ∀ i, C' 13 i = if c0 = 13 ∧ i = n then v else C 13 i) (e14 : ∀ i, C' 14 i = if c0 = 14 ∧ i = n then v else C 14 i)
    (hk : ∀ c : Nat, c ≠ 2 → c ≠ 3 → c ≠ 7 → c ≠ 0 → M' c = M c) (hk0 : ∀ i, i ≠ 9 → M' 0 i = M 0 i) (f2 : ∀ i, M' 2 i = if c0 = 13 ∧ i = n then v else M 2 i) (f3 : ∀ i, M' 3 i = if c0 = 14 ∧ i = n then v else M 3 i) : Rel (k + 1) C' M' := by
  obtain ⟨⟨r0, r1, r2⟩, hn, hn2, hx, ht, hc⟩ := h.2
  have e1 : C' 1 = C 1 := hs 1 (by omega)
  refine ⟨hI, ⟨by rw [hk0 0 (by decide), e2]; exact r0, by rw [hk0 4 (by decide), e1]; exact r1, by rw [hk0 5 (by decide), e1]; exact r2⟩, fun m x0 x1 => ?_, fun m x0 x1 => ?_, fun y y0 y1 => ?_, ?_, ?_⟩
  · rw [e2] at x1
    obtain ⟨a1, a2, a3⟩ := hn m x0 x1
    rw [hk 1 (by decide) (by decide) (by decide) (by decide), f2, f3, e12, e13, e14, a1, a2, a3]
    exact ⟨rfl, rfl, rfl⟩
  · rw [e2] at x0
    have q := hnm.2
    rw [f2, f3, if_neg (by omega), if_neg (by omega)]
    exact hn2 m x0 x1
  · rw [hk 4 (by decide) (by decide) (by decide) (by decide), hk 5 (by decide) (by decide) (by decide) (by decide), hk 6 (by decide) (by decide) (by decide) (by decide), hs 4 (by omega), hs 5 (by omega), hs 6 (by omega), hs 7 (by omega)]
    rw [e1] at y1
    exact hx y y0 y1
  · rw [hk0 33 (by decide), hk 21 (by decide) (by decide) (by decide) (by decide), hs 3 (by omega), hs 26 (by omega)]
    exact ht
  · rw [hk0 24 (by decide), hk 16 (by decide) (by decide) (by decide) (by decide)]
    exact ⟨hc.1, by omega, hc.2.2⟩
theorem p_define (h : Rel k C M) : w_X3_define C n x (fun r C' => w_X4_define M n x (fun r' M' => r = r' ∧ Rel (k + 1) C' M')) := by
  obtain ⟨⟨r0, r1, r2⟩, hn, hn2, hx, ht, hc⟩ := h.2
  obtain ⟨t0, t9, th⟩ := h.1.2.1
  have h12 := h.1.1.2.1
  have h00 := h.1.1.1
  have hT := Rel_TM h
  refine c_define h.1 (fun z => ?_) (fun z z2 z3 => ?_) (fun z z2 z3 z4 => ?_) (fun z z2 C' hI hs e2 e12 e13 e14 => ?_)
  · exact m_isName (by omega) (fun q => absurd (by unfold isnm; omega) z) (fun q => ⟨fun _ => ⟨rfl, h.up1⟩, fun e => absurd rfl e⟩)
  · refine m_isName (by omega) (fun q => ⟨fun e => absurd e (by decide), fun _ => ⟨fun e => absurd e z2, fun _ => m_isTerm (by omega) (fun q => absurd (by unfold made; omega) z3) (fun q => ⟨fun e => absurd rfl e, fun _ => ⟨rfl, h.up1⟩⟩)⟩⟩) (fun q => absurd (by unfold isnm at z; omega) q)
  · have hm : 0 ≤ x ∧ x < C 1 8 := z3
    refine m_isName (by omega) (fun q => ⟨fun e => absurd e (by decide), fun _ => ⟨fun e => absurd e z2, fun _ => m_isTerm (by omega) (fun q2 => ⟨fun _ => ⟨fun e => absurd e z2, fun _ => m_may hT hm q (Rel_siz h hm.1 hm.2) (fun ha => ?_) (fun ha M' hg => ⟨fun e => absurd rfl e, fun _ => ⟨rfl, h.keep (gsame_keeps hg)⟩⟩)⟩, fun e => absurd e (by decide)⟩) (fun q2 => absurd (by unfold made at z3; omega) q2)⟩⟩) (fun q => absurd (by unfold isnm at z; omega) q)
    rw [Rel_vM h hm.2, (hn n z.1 z.2).1] at ha
    exact absurd ha z4
  · -- it is defined
    have hnm : 0 ≤ n ∧ n < 12 := by have := z.1; have := z.2; omega
    have fin : ∀ M1, gsame M M1 → w_X4_define_J42 (fun r' M' => C 13 n = r' ∧ Rel (k + 1) C' M') M1 n x := fun M1 hg => by
      have g2 : M1 2 = M 2 := hg.1 2 (by decide) (by decide)
      refine ⟨hnm, hnm, ?_, ?_⟩
      · rw [g2]
        exact (hn n z.1 z.2).2.1.symm
      · refine rel_mark (c0 := 13) (m0 := 2) (v := x) h hI z hs e2 e12 (fun i => by rw [e13]; simp) (fun i => by rw [e14]; simp) (fun c c2 c3 c7 c0 => ?_) (fun i hi => ?_) (fun i => ?_) (fun i => ?_)
        · rw [up_off c2]
          exact hg.1 c c0 c7
        · rw [up_off (by decide)]
          exact hg.2 i hi
        · rw [up_at, g2]
          simp
        · rw [up_off (by decide), hg.1 3 (by decide) (by decide)]
          simp
    refine m_isName (by omega) (fun q => ⟨fun e => absurd e (by decide), fun _ => ⟨fun e => ⟨fun _ => fin M gsame.rf, fun z => absurd e z⟩, fun e => m_isTerm (by omega) (fun q2 => ⟨fun _ => ⟨fun e2 => absurd e2 e, fun _ => ?_⟩, fun e => absurd e (by decide)⟩) (fun q2 => ?_)⟩⟩) (fun q => absurd (by unfold isnm at z; omega) q)
    · rcases z2 with z2 | z2
      · exact absurd z2 e
      · have hm : 0 ≤ x ∧ x < C 1 8 := z2.1
        refine m_may hT hm q (Rel_siz h hm.1 hm.2) (fun ha M1 hg => ⟨fun _ => fin M1 hg, fun e => absurd e (by decide)⟩) (fun ha => ?_)
        rw [Rel_vM h hm.2, (hn n z.1 z.2).1] at ha
        exact absurd z2.2 ha
    · rcases z2 with z2 | z2
      · exact absurd z2 e
      · exact absurd (by have := z2.1; unfold made at this; omega) q2
theorem p_opaque (h : Rel k C M) (hy : b01 y) : w_X3_opaque C n y (fun r C' => w_X4_opaque M n y (fun r' M' => r = r' ∧ Rel (k + 1) C' M')) := by
  obtain ⟨⟨r0, r1, r2⟩, hn, hn2, hx, ht, hc⟩ := h.2
  have h12 := h.1.1.2.1
  have h00 := h.1.1.1
  refine c_opaque h.1 hy (fun z => ?_) (fun z z2 => ?_) (fun z z2 C' hI hs e2 e12 e14 e13 => ?_)
  · exact m_isName (by omega) (fun q => absurd (by unfold isnm; omega) z) (fun q => ⟨fun e => absurd rfl e, fun _ => ⟨rfl, h.up1⟩⟩)
  · refine m_isName (by omega) (fun q => ⟨fun _ => ⟨by omega, fun e => ?_, fun _ => ⟨rfl, h.up1⟩⟩, fun e => absurd e (by decide)⟩) (fun q => absurd (by unfold isnm at z; omega) q)
    rw [(hn n z.1 z.2).2.2] at e
    exact absurd z2 e
  · refine m_isName (by omega) (fun q => ⟨fun _ => ⟨by omega, fun _ => ⟨hy, by omega, rfl, ?_⟩, fun e => ?_⟩, fun e => absurd e (by decide)⟩) (fun q => absurd (by unfold isnm at z; omega) q)
    · refine rel_mark (c0 := 14) (m0 := 3) (v := y) h hI z hs e2 e12 (fun i => by rw [e13]; simp) (fun i => by rw [e14]; simp) (fun c c2 c3 c7 c0 => up_off c3) (fun i hi => by rw [up_off (by decide)]) (fun i => ?_) (fun i => ?_)
      · rw [up_off (by decide)]
        simp
      · rw [up_at]
        simp
    · rw [(hn n z.1 z.2).2.2] at e
      exact absurd e z2
theorem p_ofTerm (h : Rel k C M) : w_X3_ofTerm C x y (fun r C' => w_X4_ofTerm M x y (fun r' M' => r = r' ∧ Rel (k + 1) C' M')) := by
  obtain ⟨⟨r0, r1, r2⟩, hn, hn2, hx, ht, hc⟩ := h.2
  obtain ⟨t0, t9, th⟩ := h.1.2.1
  have hT := Rel_TM h
  have h12 := h.1.1.2.1
  refine c_ofTerm h.1 (fun z => ?_) (fun z => ?_)
  · exact m_isTerm (by omega) (fun q => absurd (by unfold made; omega) z) (fun q => ⟨fun e => absurd rfl e, fun _ => ⟨rfl, h.up1⟩⟩)
  · have hm : 0 ≤ x ∧ x < C 1 8 := z
    obtain ⟨a1, a2, a3, a4⟩ := hx x hm.1 hm.2
    have hf := h.1.2.2.1.fr hm.1 hm.2 h12
    refine m_isTerm (by omega) (fun q => ⟨fun _ => ⟨fun e => ?_, fun e => ⟨by omega, fun g => ?_, fun g => ⟨by omega, ?_⟩⟩, fun e => m_part (by omega) (Or.inl rfl) ?_, fun e => m_part (by omega) (Or.inr rfl) ?_, fun e => ⟨by omega, fun g => ⟨by omega, by rw [a1] at g ⊢; unfold rg; omega, ?_⟩, fun g => ?_⟩, fun e => ?_, fun e => ⟨by omega, ?_⟩⟩, fun e => absurd e (by decide)⟩) (fun q => absurd (by unfold made at z; omega) q)
    · rw [if_neg (by omega), if_neg (by omega), if_neg (by omega), if_neg (by omega), if_neg (by omega), if_neg (by omega)]
      exact ⟨rfl, h.up1⟩
    · rw [a1] at g
      rw [if_pos e, if_pos g]
      exact ⟨rfl, h.up1⟩
    · rw [a1] at g
      rw [if_pos e, if_neg g, a1]
      exact ⟨rfl, h.up1⟩
    · rw [if_neg (by omega), if_pos e, Int.add_zero, a2]
      exact ⟨rfl, h.up1⟩
    · rw [if_neg (by omega), if_neg (by omega), if_pos e, a3]
      exact ⟨rfl, h.up1⟩
    · rw [a1] at g
      rw [if_neg (by omega), if_neg (by omega), if_neg (by omega), if_pos e, if_pos g, a1]
      exact ⟨rfl, h.up1⟩
    · rw [a1] at g
      rw [if_neg (by omega), if_neg (by omega), if_neg (by omega), if_pos e, if_neg g]
      exact ⟨rfl, h.up1⟩
    · rw [if_neg (by omega), if_neg (by omega), if_neg (by omega), if_neg (by omega), if_pos e]
      obtain ⟨c1, c2, c3, c4, c5, c6⟩ := h.1.2.2.2.1 x hm.1 hm.2
      rw [c5, c6]
      refine m_closed hT hm (Rel_siz h hm.1 hm.2) (fun q M' hg => ⟨fun e => absurd e (by decide), fun _ => ?_⟩) (fun q M' hg => ⟨fun _ => ?_, fun e => absurd rfl e⟩)
      · rw [Rel_vM h hm.2] at q
        rw [if_pos q]
        exact ⟨rfl, h.keep (gsame_keeps hg)⟩
      · rw [Rel_vM h hm.2] at q
        rw [if_neg q]
        exact ⟨rfl, h.keep (gsame_keeps hg)⟩
    · rw [if_neg (by omega), if_neg (by omega), if_neg (by omega), if_neg (by omega), if_neg (by omega), if_pos e, a4]
      exact ⟨rfl, h.up1⟩
end H
