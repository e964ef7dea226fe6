/-! the reference within a check: a definition is gone through, and what comes of it -/
theorem TM_le {M : Mem} {N N' : Int} (h : TM M N) (hl : N' ≤ N) : TM M N' :=
  ⟨⟨fun x x0 x1 => h.1.1 x x0 (by omega), fun x y x0 x1 y0 y1 => h.1.2 x y x0 (by omega) y0 (by omega)⟩, Int.le_trans hl h.2.1, h.2.2⟩
section H
variable {C M : Mem} {x a b : Int} {Q : Int → Mem → Prop}
theorem XM_node (h : XM C M) (ha : 0 ≤ a ∧ a < M 0 5) {f : Nat} {p q : Tr} (e : vM M a = nd f p q) (hf : f < 100) : M 4 a = f ∧ vM M (M 5 (2 * a)) = p ∧ vM M (M 5 (2 * a + 1)) = q ∧ (f : Int) < C 2 7 ∧ (C 12 f < 1 → M 5 (2 * a) = -9) ∧ (1 ≤ C 12 f → 0 ≤ M 5 (2 * a) ∧ M 5 (2 * a) < M 0 5) ∧ (C 12 f < 2 → M 5 (2 * a + 1) = -9) ∧ (2 ≤ C 12 f → 0 ≤ M 5 (2 * a + 1) ∧ M 5 (2 * a + 1) < M 0 5) := by
  have hT := h.2.1
  have hfr := hT.fr ha
  rw [vM_eq hT ha] at e
  obtain ⟨q1, q2, q3⟩ := nd_inj e
  have e4 : M 4 a = f := by omega
  have h00 := h.1.1.1
  have h12 := hT.2.2.1
  have hfn : (f : Int) < C 2 7 := by omega
  have ea := (h.1.2.1 f (by omega) hfn).1
  have hp := TM_parts hT ha
  have ec : pcn M a = C 12 f := by
    unfold pcn
    rw [if_pos (by omega), e4, ea]
  rw [ec] at hp
  refine ⟨e4, q2, q3, hfn, fun z => hp.2.2.1 (by omega), fun z => ?_, fun z => hp.2.2.2 (by omega), fun z => ?_⟩
  · have := hp.1 (by omega)
    omega
  · have := hp.2.1 (by omega)
    omega
theorem m_unfL (hI : InvC C) {M1 : Mem} {f : Nat} {p q : Tr} {l : Int → Int} {m : Nat} (hf : foldN C f) (w : Walk M1 (C 1 8) (C 13 f) l m) (hX1 : XM C M1) (hx : 0 ≤ x ∧ x < M1 0 5) (e : vM M1 x = nd f p q) (hcap : M1 0 5 + 15 ≤ 740)
    (k : ∀ (M' : Mem) (r : Int), growsM M1 M' → M' 0 5 ≤ M1 0 5 + 15 → XM C M' → M' 0 19 = M1 0 19 → 0 ≤ r ∧ r < M' 0 5 → vM M' r = sub p q (dfn C f) → Q r M') :
    ∀ (j i : Nat) (Mc : Mem), growsM M1 Mc → Mc 7 = l → XM C Mc → Mc 0 19 = M1 0 19 → i ≤ m → i < j → Mc 0 5 ≤ M1 0 5 + (m - i) → (∀ z : Nat, i ≤ z → z < m → (0 ≤ Mc 17 z ∧ Mc 17 z < Mc 0 5) ∧ vM Mc (Mc 17 z) = sub p q (vC C (l z))) → w_X4_unfolds_L37 Q j Mc x ((i : Int) - 1) := by
  obtain ⟨t0, t9, th⟩ := hI.2.1
  obtain ⟨hB, -, hT, -⟩ := id hI
  have h12 := hB.2.1
  obtain ⟨hm, hok⟩ := dfn_ok hI hf
  have lz : ∀ z : Nat, z < m → 0 ≤ l z ∧ l z < C 1 8 := fun z hz => w.2.2.2.1 z hz
  have TM1 : TM M1 (C 1 8) := TM_le hX1.2.1 hX1.2.2.1
  have fz : ∀ z : Nat, z < m → M1 4 (l z) = C 4 (l z) := fun z hz => (hX1.1.2.2.2.1 _ (lz z hz).1 (lz z hz).2).1
  have oz : ∀ z : Nat, z < m → okd f (C 12 f) (C 4 (l z)).toNat := fun z hz => by
    have := (w.all TM1 (okd f (C 12 f))).mp (by rw [XM_vM hI hX1 hm.2]; exact hok) z hz
    rw [fz z hz] at this
    exact this
  have m15 := w.1
  have har := (hB.2.2 f (by omega) hf.2.1).1
  intro j
  induction j with
  | zero => intro i Mc g hl hX h19 h1 h2; omega
  | succ j ih =>
    intro i Mc g hl hX h19 him hij hle hdone
    rw [w_X4_unfolds_L37]
    refine ⟨fun z => ⟨by omega, ?_⟩, fun z => ?_⟩
    · have hi : i = 0 := by omega
      subst hi
      have := hdone 0 (Nat.le_refl 0) (by omega)
      rw [show l ((0 : Nat) : Int) = C 13 f from w.2.2.1] at this
      exact k Mc _ g (by omega) hX h19 this.1 this.2
    · obtain ⟨i', rfl⟩ : ∃ i' : Nat, i = i' + 1 := ⟨i - 1, by omega⟩
      have ep : ((i' + 1 : Nat) : Int) - 1 = (i' : Int) := by omega
      rw [ep] at z ⊢
      have him' : i' < m := by omega
      have hlp := lz i' him'
      have hfr := hT.fr hlp.1 hlp.2 h12
      have xx := hX.1.2.2.2.1 _ hlp.1 hlp.2
      have hoz := oz i' him'
      have lg := g.2.2.1
      have vx : vM Mc x = nd f p q := by rw [growsM_vM g hX1.2.1 hx.2, e]
      obtain ⟨n4, n5, n6, nfn, n5a, n5b, n6a, n6b⟩ := XM_node hX (by omega) vx hf.1
      have hvl : vC C (l i') = nd (C 4 (l i')).toNat (vC C (C 5 (l i'))) (vC C (C 6 (l i'))) := vC_eq hT hlp.1 hlp.2
      rw [hl, xx.1]
      -- a row is done
      have step : ∀ (M2 : Mem) (r : Int), growsM Mc M2 → M2 0 5 ≤ Mc 0 5 + 1 → XM C M2 → M2 7 = Mc 7 → M2 17 = Mc 17 → M2 0 19 = Mc 0 19 → 0 ≤ r ∧ r < M2 0 5 → vM M2 r = sub p q (vC C (l i')) → rg ((i' : Int) + (-1)) ∧ w_X4_unfolds_L37 Q j (up M2 17 i' r) x ((i' : Int) + (-1)) := by
        intro M2 r g2 l2 X2 e7 e17 e19 hr hv
        refine ⟨by unfold rg; omega, ?_⟩
        have hs : mside M2 (up M2 17 i' r) := ⟨fun c hc => up_off (by omega), fun i hi => by rw [up_off (by decide)]⟩
        have gs : growsM M2 (up M2 17 i' r) := by
          refine ⟨fun c _ _ _ _ _ c17 => up_off c17, fun i _ _ _ => by rw [up_off (by decide)], by rw [up_off (by decide)]; exact Int.le_refl _, fun i _ _ => by rw [up_off (by decide), up_off (by decide), up_off (by decide)]; exact ⟨rfl, rfl, rfl, rfl⟩⟩
        have e05 : (up M2 17 i' r) 0 5 = M2 0 5 := by rw [up_off (by decide)]
        have := ih i' (up M2 17 i' r) ((g.tr g2).tr gs) (by rw [up_off (by decide), e7, hl]) (XM_side hs X2) (by rw [up_off (by decide), e19, h19]) (by omega) (by omega) (by rw [e05]; omega) (fun z z1 z2 => ?_)
        · rw [show (i' : Int) + -1 = (i' : Int) - 1 by omega]
          exact this
        · rw [e05, mside_vM hs]
          have eu : (up M2 17 i' r) 17 z = if (z : Int) = i' then r else Mc 17 z := by rw [up_at, e17]
          rw [eu]
          by_cases c : z = i'
          · rw [if_pos (by omega), c]
            exact ⟨hr, hv⟩
          · rw [if_neg (by omega)]
            have hd := hdone z (by omega) z2
            have l3 := g2.2.2.1
            exact ⟨by omega, by rw [growsM_vM g2 hX.2.1 hd.1.2]; exact hd.2⟩
      refine ⟨by omega, by omega, fun c => ?_, fun c => ⟨by unfold rg; omega, ?_⟩⟩
      · -- a name
        have TMc : TM Mc (C 1 8) := TM_le hX.2.1 hX.2.2.1
        have hfn : C 4 (l i') < C 2 7 := by omega
        have ea := (hX.1.2.1 _ hfr.1 hfn).1
        have hara := (hB.2.2 _ hfr.1 hfn).1
        have fe : fpos Mc l i' = fpos M1 l i' := by
          unfold fpos
          rw [psum_ext i' (fun z z0 z1 => ?_)]
          have hz := lz z.toNat (by omega)
          rw [Int.toNat_of_nonneg z0] at hz
          unfold pcn
          rw [(g.2.2.2 _ hz.1 (by have := hX1.2.2.1; omega)).1, g.1 1 (by decide) (by decide) (by decide) (by decide) (by decide) (by decide)]
        have wk := w.2.2.2.2.2 i' him'
        have ec : pcn M1 (l i') = C 12 (C 4 (l i')) := by
          unfold pcn
          rw [fz i' him', if_pos c, (hX1.1.2.1 _ hfr.1 hfn).1]
        rw [ec] at wk
        have y5 : M1 5 (2 * l i') = C 5 (l i') := (hX1.1.2.2.2.1 _ hlp.1 hlp.2).2.1
        have y6 : M1 5 (2 * l i' + 1) = C 6 (l i') := (hX1.1.2.2.2.1 _ hlp.1 hlp.2).2.2.1
        rw [y5, y6] at wk
        have tn : (C 12 (C 4 (l i')) < 1 → C 5 (l i') = -9) ∧ (C 12 (C 4 (l i')) < 2 → C 6 (l i') = -9) := by
          rcases hT.1 (l i') hlp.1 hlp.2 with gg | ⟨g1, g2, g3, g4, g5⟩
          · omega
          · exact ⟨g2, g4⟩
        have p0 : 0 < C 12 (C 4 (l i')) → (0 ≤ Mc 17 (fpos M1 l i') ∧ Mc 17 (fpos M1 l i') < Mc 0 5) ∧ vM Mc (Mc 17 (fpos M1 l i')) = sub p q (vC C (C 5 (l i'))) := fun cc => by
          have := hdone (fpos M1 l i').toNat (by omega) (by omega)
          rw [Int.toNat_of_nonneg (by omega), wk.2.2.1 cc] at this
          exact this
        have p1 : 1 < C 12 (C 4 (l i')) → (0 ≤ Mc 17 (fpos M1 l i' + 1) ∧ Mc 17 (fpos M1 l i' + 1) < Mc 0 5) ∧ vM Mc (Mc 17 (fpos M1 l i' + 1)) = sub p q (vC C (C 6 (l i'))) := fun cc => by
          have := hdone (fpos M1 l i' + 1).toNat (by omega) (by omega)
          rw [Int.toNat_of_nonneg (by omega), wk.2.2.2 cc] at this
          exact this
        have fin : ∀ a b : Int, mnode Mc (C 4 (l i')) a b → vM Mc a = sub p q (vC C (C 5 (l i'))) → vM Mc b = sub p q (vC C (C 6 (l i'))) → w_X4_unfolds_J131 Q (w_X4_unfolds_L37 Q j) Mc x i' (C 4 (l i')) a b := by
          intro a b hmn va vb
          refine m_fh hX (by omega) (by omega) hmn (fun M2 r g2 l2 X2 e7 e17 e9 e19 hr hv => ⟨by omega, step M2 r g2 l2 X2 e7 e17 e19 hr ?_⟩)
          rw [hv, va, vb, hvl, sub_nd, if_neg (by omega), if_neg (by omega)]
        have vn : vM Mc (-9) = nl := vM_neg (by decide)
        have h00 := hX.1.1.1
        have j107 : ∀ a : Int, (C 12 (C 4 (l i')) < 1 → a = -9) → (1 ≤ C 12 (C 4 (l i')) → 0 ≤ a ∧ a < Mc 0 5) → vM Mc a = sub p q (vC C (C 5 (l i'))) → w_X4_unfolds_J107 Q (w_X4_unfolds_L37 Q j) Mc x i' (C 4 (l i')) (fpos M1 l i') a := by
          intro a a1 a2 va
          refine ⟨by omega, ?_⟩
          rw [ea]
          refine ⟨fun cc => fin a (-9) ⟨by omega, by rw [ea]; exact a1, by rw [ea]; exact a2, fun _ => rfl, by rw [ea]; intro; omega⟩ va ?_, fun cc => ⟨by unfold rg; omega, by omega, fin a _ ⟨by omega, by rw [ea]; exact a1, by rw [ea]; exact a2, by rw [ea]; intro; omega, fun _ => (p1 (by omega)).1⟩ va (p1 (by omega)).2⟩⟩
          rw [vn, tn.2 (by omega), vC_neg (by decide)]
          rfl
        refine m_fp TMc hl (by omega) lz (by omega) ?_
        rw [fe]
        refine ⟨by omega, ?_⟩
        rw [ea]
        refine ⟨fun cc => j107 (-9) (fun _ => rfl) (fun z => by omega) ?_, fun cc => ⟨by omega, j107 _ (fun z => by omega) (fun _ => (p0 (by omega)).1) (p0 (by omega)).2⟩⟩
        rw [vn, tn.1 (by omega), vC_neg (by decide)]
        rfl
      · -- a parameter
        unfold okd at hoz
        have hcc : C 4 (l i') = 100 ∨ C 4 (l i') = 101 := by omega
        refine m_part (by omega) (by omega) ⟨by omega, ?_⟩
        rcases hcc with ee | ee
        · rw [ee, show 2 * x + ((100 : Int) - 100) = 2 * x by omega]
          refine step Mc _ growsM.rf (by omega) hX rfl rfl rfl ?_ ?_
          · exact n5b (by omega)
          · rw [hvl, ee, sub_nd, if_pos (by decide)]
            exact n5
        · rw [ee]
          refine step Mc _ growsM.rf (by omega) hX rfl rfl rfl ?_ ?_
          · exact n6b (by omega)
          · rw [hvl, ee, sub_nd, if_neg (by decide), if_pos (by decide)]
            exact n6
theorem m_unf (hI : InvC C) (h : XM C M) {f : Nat} {p q : Tr} (hx : 0 ≤ x ∧ x < M 0 5) (e : vM M x = nd f p q) (hf : foldN C f) (hcap : M 0 5 + 15 ≤ 740) (hu : 0 ≤ M 0 19 ∧ M 0 19 ≤ 1000)
    (k : ∀ (M' : Mem) (r : Int), growsM M M' → M' 0 5 ≤ M 0 5 + 15 → XM C M' → M' 0 19 = M 0 19 + 1 → 0 ≤ r ∧ r < M' 0 5 → vM M' r = sub p q (dfn C f) → Q r M') : w_X4_unfolds M x Q := by
  obtain ⟨hm, hok⟩ := dfn_ok hI hf
  have h12 := hI.1.2.1
  generalize hM1 : up M 0 19 (M 0 19 + 1) = M1
  have s0 : ∀ i, i ≠ 19 → M1 0 i = M 0 i := fun i hi => by rw [← hM1]; simp [up, hi]
  have sc : ∀ c : Nat, c ≠ 0 → M1 c = M c := fun c hc => by rw [← hM1, up_off hc]
  have s19 : M1 0 19 = M 0 19 + 1 := by rw [← hM1]; simp [up]
  have hs : mside M M1 := ⟨fun c hc => sc c (by omega), fun i hi => s0 i (by omega)⟩
  have X1 := XM_side hs h
  have g1 : growsM M M1 := ⟨fun c c0 _ _ _ _ _ => sc c c0, fun i _ _ i19 => s0 i i19, by rw [s0 5 (by decide)]; exact Int.le_refl _, fun i _ _ => by rw [sc 4 (by decide), sc 5 (by decide), sc 6 (by decide)]; exact ⟨rfl, rfl, rfl, rfl⟩⟩
  have hx1 : 0 ≤ x ∧ x < M1 0 5 := by rw [s0 5 (by decide)]; exact hx
  have e1 : vM M1 x = nd f p q := by rw [mside_vM hs]; exact e
  have n4 := (XM_node X1 hx1 e1 hf.1).1
  have h0f := hf.2.1
  have e2 : M1 2 f = C 13 f := (X1.1.2.1 f (by omega) hf.2.1).2.1
  have h15 : siz (vM M1 (C 13 f)) ≤ 15 := by
    rw [XM_vM hI X1 hm.2, ← (hI.2.2.2.1 _ hm.1 hm.2).2.2.1]
    exact (tc_range (hI.2.2.2.1 _ hm.1 hm.2)).2.1.2
  unfold w_X4_unfolds
  rw [hM1, n4, e2]
  refine ⟨by unfold rg; omega, by omega, by omega, m_gt (TM_le X1.2.1 X1.2.2.1) hm h15 (fun M7 m hg hmm w => ?_)⟩
  have m15 := w.1
  have hs7 : mside M1 M7 := ⟨fun c hc => hg.1 c (by omega) (by omega), fun i hi => hg.2 i (by omega)⟩
  have g7 : growsM M1 M7 := ⟨fun c c0 _ _ _ c7 _ => hg.1 c c0 c7, fun i _ i9 _ => hg.2 i i9, by rw [hg.2 5 (by decide)]; exact Int.le_refl _, fun i _ _ => by rw [hg.1 4 (by decide) (by decide), hg.1 5 (by decide) (by decide), hg.1 6 (by decide) (by decide)]; exact ⟨rfl, rfl, rfl, rfl⟩⟩
  rw [hmm]
  refine ⟨by unfold rg; omega, m + 1, ?_⟩
  refine m_unfL hI hf w X1 hx1 e1 (by rw [s0 5 (by decide)]; exact hcap) (fun M' r g2 l2 X2 e19 hr hv => ?_) (m + 1) m M7 g7 rfl (XM_side hs7 X1) (hg.2 19 (by decide)) (Nat.le_refl m) (by omega) (by rw [hg.2 5 (by decide)]; omega) (fun z z1 z2 => by omega)
  rw [s0 5 (by decide)] at l2
  exact k M' r (g1.tr g2) l2 X2 (by omega) hr hv
end H
