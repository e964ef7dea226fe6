/-! the reference: what follows for each name is found -/
section H
variable {k : Int} {C M : Mem} {n x y a b : Int}
theorem m_head {Q : Int → Mem → Prop} (h : Rel k C M) (q : Q (hdw (C 16) (vC C x)) M) (hx : made C x) (hag : allF (fun f => f < 100 → AGf C M f) (vC C x)) : w_X4_headNow M x Q := by
  obtain ⟨⟨r0, r1, r2⟩, hn, hn2, hxx, ht, hc⟩ := h.2
  obtain ⟨t0, t9, th⟩ := h.1.2.1
  obtain ⟨hB, -, hT, -, hNC, -⟩ := id h.1
  have h12 := hB.2.1
  have L : ∀ (j : Nat) (x : Int), 0 ≤ x → x < C 1 8 → x < j → Q (hdw (C 16) (vC C x)) M → allF (fun f => f < 100 → AGf C M f) (vC C x) → w_X4_headNow_L2 Q j M x := by
    intro j
    induction j with
    | zero => intro x x0 x1 x2; omega
    | succ j ih =>
      intro x x0 x1 x2 q hag
      obtain ⟨a1, a2, a3, a4⟩ := hxx x x0 x1
      have hf := hT.fr x0 x1 h12
      have e4 : (((C 4 x).toNat : Nat) : Int) = C 4 x := Int.toNat_of_nonneg hf.1
      rw [vC_eq hT x0 x1] at q hag
      rw [allF_nd, e4] at hag
      rw [hdw_nd, e4] at q
      rw [w_X4_headNow_L2, a1]
      unfold w_X4_headNow_J52
      rw [a1]
      refine ⟨by omega, fun z => ⟨by omega, fun c => by omega, fun c => ⟨by omega, ?_⟩⟩, fun z => ?_⟩
      · rw [if_pos (by omega)] at q
        exact q
      · have hnm : 0 ≤ C 4 x ∧ C 4 x < C 2 7 := by omega
        rw [if_neg (by omega)] at q
        have hg := (hag.1 (by omega)).2.1
        rw [hg]
        have hw := (hNC _ hnm.1 hnm.2).2.2.1
        refine ⟨by omega, by omega, fun c => ⟨by omega, fun d => ⟨by omega, by omega, ?_⟩, fun d => by omega⟩, fun c => ⟨by omega, by omega, by have := (hB.2.2 _ hnm.1 hnm.2).1; unfold rg; omega, ?_⟩⟩
        · rw [if_pos c] at q
          exact q
        · rw [if_neg c] at q
          have har := (hB.2.2 _ hnm.1 hnm.2).1
          rcases hT.1 x x0 x1 with p | ⟨p1, p2, p3, p4, p5⟩
          · omega
          · by_cases e : C 16 (C 4 x) = 100
            · rw [if_pos e] at q
              have hp := p3 (by omega)
              refine m_part (by omega) (Or.inl (by omega)) ?_
              rw [show 2 * x + (C 16 (C 4 x) - 100) = 2 * x by omega, a2]
              exact ih _ hp.1 (by omega) (by omega) q hag.2.1
            · rw [if_neg e] at q
              have hp := p5 (by omega)
              refine m_part (by omega) (Or.inr (by omega)) ?_
              rw [show 2 * x + (C 16 (C 4 x) - 100) = 2 * x + 1 by omega, a3]
              exact ih _ hp.1 (by omega) (by omega) q hag.2.2
  exact ⟨x.toNat + 1, L _ x hx.1 hx.2 (by have := hx.1; omega) q hag⟩
theorem AGf.ext {M' : Mem} {f : Int} (h : AGf C M f) (e8 : M' 8 f = M 8 f) (e12 : M' 12 f = M 12 f) (e9 : M' 9 f = M 9 f) (e11 : M' 11 f = M 11 f) (e0 : M' 10 (2 * f) = M 10 (2 * f)) (e1 : M' 10 (2 * f + 1) = M 10 (2 * f + 1)) : AGf C M' f := by
  unfold AGf
  rw [e8, e12, e9, e11, e0, e1]
  exact h
theorem WT.ext {M' : Mem} {y : Int} (h : WT C M y) (e13 : M' 13 y = M 13 y) (e15 : M' 15 y = M 15 y) (e0 : M' 14 (2 * y) = M 14 (2 * y)) (e1 : M' 14 (2 * y + 1) = M 14 (2 * y + 1)) : WT C M' y := by
  unfold WT
  rw [e13, e15, e0, e1]
  exact h
theorem wsame_keeps {M' : Mem} {y : Int} (h : wsame M M' y) : keeps M M' := ⟨fun c hc => h.1 c (by omega) (by omega) (by omega), fun i hi => by rw [h.1 0 (by decide) (by decide) (by decide)]⟩
theorem wsame_WT {M' : Mem} {y z : Int} (hw : wsame M M' y) (hy : WT C M' y) (hz : WT C M z) : WT C M' z := by
  by_cases e : z = y
  · rw [e]
    exact hy
  · exact hz.ext (hw.2.1 z e).1 (hw.2.1 z e).2 (hw.2.2 _ (by omega) (by omega)) (hw.2.2 _ (by omega) (by omega))
/-- down through the nodes of a definition -/
theorem m_fnL {Q : Mem → Prop} {M0 : Mem} {l : Int → Int} {m : Nat} (h0 : Rel k C M0) (hn : isnm C n) (hx : made C x) (w : Walk M0 (C 1 8) x l m) (ht : allF (okd n (C 12 n)) (vC C x)) (h15 : C 15 n = 1 + mxh (C 15) (vC C x)) (h16 : C 16 n = hdw (C 16) (vC C x)) (h18 : C 18 n = cnw (cM C) 0 (vC C x)) (h19 : C 19 n = cnw (cM C) 1 (vC C x)) (h20 : C 20 n = cnw (cM C) 2 (vC C x)) (h21 : C 21 n = sadd 1 (cnw (cM C) 3 (vC C x)))
    (q : ∀ M', keeps M0 M' → (∀ f, 0 ≤ f → f < n + 1 → AGf C M' f) → Q M') :
    ∀ (j i : Nat) (Mc : Mem) (x3 : Int), keeps M0 Mc → Mc 7 = l → (∀ f, 0 ≤ f → f < n → AGf C Mc f) → i ≤ m → i < j → (∀ z : Nat, i ≤ z → z < m → WT C Mc (l z)) → 0 ≤ x3 → x3 ≤ n → (∀ z : Nat, i ≤ z → z < m → C 4 (l z) < 100 → C 15 (C 4 (l z)) ≤ x3) → (x3 = 0 ∨ ∃ z : Nat, i ≤ z ∧ z < m ∧ C 4 (l z) < 100 ∧ C 15 (C 4 (l z)) = x3) → w_X4_findName_L79 Q j Mc n x x3 ((i : Int) - 1) := by
  obtain ⟨t0, t9, th⟩ := h0.1.2.1
  obtain ⟨hB, -, hT, -, hNC, -⟩ := id h0.1
  have h12 := hB.2.1
  have hn0 := hn.1
  have hn1 := hn.2
  have hx0 := hx.1
  have hx1 := hx.2
  have TM0 := Rel_TM h0
  have lz : ∀ z : Nat, z < m → 0 ≤ l z ∧ l z < C 1 8 := fun z hz => w.2.2.2.1 z hz
  have fz : ∀ z : Nat, z < m → M0 4 (l z) = C 4 (l z) := fun z hz => (h0.2.2.2.2.1 _ (lz z hz).1 (lz z hz).2).1
  have oz : ∀ z : Nat, z < m → okd n (C 12 n) (C 4 (l z)).toNat := fun z hz => by
    have := (w.all TM0 (okd n (C 12 n))).mp (by rw [Rel_vM h0 hx1]; exact ht) z hz
    rw [fz z hz] at this
    exact this
  intro j
  induction j with
  | zero => intro i Mc x3 hk hl ha h1 h2; omega
  | succ j ih =>
    intro i Mc x3 hk hl ha him hij hwt hp0 hp1 hh1 hh2
    have hR : Rel (k + 1) C Mc := h0.keep hk
    rw [w_X4_findName_L79]
    refine ⟨fun z => ?_, fun z => ?_⟩
    · -- all are weighed
      have hi : i = 0 := by omega
      subst hi
      have w0 : WT C Mc x := by
        have := hwt 0 (Nat.le_refl 0) (by have := w.1; omega)
        rw [show l ((0 : Nat) : Int) = x from w.2.2.1] at this
        exact this
      have e3 : 1 + x3 = C 15 n := by
        rw [h15]
        obtain ⟨m0, m1, m2⟩ := mxh_facts (C 15) (vC C x)
        have l1 : x3 ≤ mxh (C 15) (vC C x) := by
          rcases hh2 with e | ⟨z, z1, z2, z3, z4⟩
          · omega
          · have hf := hT.fr (lz z z2).1 (lz z z2).2 h12
            have hoc := (w.mem (C 4 (l z)).toNat).mpr ⟨z, z2, by rw [fz z z2]; omega⟩
            rw [Rel_vM h0 hx1] at hoc
            have := m1 _ (by omega) hoc
            rw [Int.toNat_of_nonneg hf.1] at this
            omega
        have l2 : mxh (C 15) (vC C x) ≤ x3 := by
          rcases m2 with e | ⟨f, f1, f2, f3⟩
          · omega
          · rw [← Rel_vM h0 hx1] at f2
            obtain ⟨z, z1, z2⟩ := (w.mem f).mp f2
            rw [fz z z1] at z2
            have := hh1 z (by omega) z1 (by omega)
            rw [z2] at this
            omega
        omega
      obtain ⟨u0, u1, u2, u3⟩ := w0
      have s3 := inv_sat h0.1 hx1 3 (by decide)
      have t1 : (up Mc 8 n (1 + x3)) 13 x = C 20 n := by rw [up_off (by decide), u2, h20]
      rw [t1]
      have t2 : (up (up Mc 8 n (1 + x3)) 9 n (C 20 n)) 14 (2 * x) = C 18 n := by rw [up_off (by decide), up_off (by decide), u0, h18]
      rw [t2]
      have t3 : (up (up (up Mc 8 n (1 + x3)) 9 n (C 20 n)) 10 (2 * n) (C 18 n)) 14 (2 * x + 1) = C 19 n := by rw [up_off (by decide), up_off (by decide), up_off (by decide), u1, h19]
      rw [t3]
      have t4 : (up (up (up (up Mc 8 n (1 + x3)) 9 n (C 20 n)) 10 (2 * n) (C 18 n)) 10 (2 * n + 1) (C 19 n)) 15 x = cnw (cM C) 3 (vC C x) := by rw [up_off (by decide), up_off (by decide), up_off (by decide), up_off (by decide), u3]
      rw [t4]
      generalize hM2 : up (up (up (up Mc 8 n (1 + x3)) 9 n (C 20 n)) 10 (2 * n) (C 18 n)) 10 (2 * n + 1) (C 19 n) = M2
      have kc : ∀ c : Nat, c ≠ 8 → c ≠ 9 → c ≠ 10 → M2 c = Mc c := fun c a b d => by rw [← hM2, up_off d, up_off d, up_off b, up_off a]
      have k8 : ∀ i, M2 8 i = if i = n then 1 + x3 else Mc 8 i := fun i => by rw [← hM2]; simp [up]
      have k9 : ∀ i, M2 9 i = if i = n then C 20 n else Mc 9 i := fun i => by rw [← hM2]; simp [up]
      have k10 : ∀ i, M2 10 i = if i = 2 * n + 1 then C 19 n else if i = 2 * n then C 18 n else Mc 10 i := fun i => by rw [← hM2]; simp [up]
      have hk2 : keeps M0 M2 := by
        refine hk.tr ⟨fun c hc => kc c (by omega) (by omega) (by omega), fun i _ => ?_⟩
        rw [kc 0 (by decide) (by decide) (by decide)]
      refine ⟨by unfold rg; omega, by omega, by omega, by omega, by unfold rg; omega, by unfold rg; omega, by omega, by omega, by unfold rg; omega, by unfold rg; omega, by unfold rg; omega, by unfold rg; omega, by omega, by omega, by omega, m_sum ⟨by decide, by decide⟩ s3 ⟨by omega, ?_⟩⟩
      rw [← h21]
      have hR3 : Rel (k + 1) C (up M2 11 n (C 21 n)) := h0.keep (hk2.tr ⟨fun c hc => up_off (by omega), fun i _ => by rw [up_off (by decide)]⟩)
      have ag : ∀ f, 0 ≤ f → f < n → AGf C (up M2 11 n (C 21 n)) f := fun f f0 f1 => by
        refine (ha f f0 f1).ext ?_ ?_ ?_ ?_ ?_ ?_
        · rw [up_off (by decide), k8, if_neg (by omega)]
        · rw [up_off (by decide), kc 12 (by decide) (by decide) (by decide)]
        · rw [up_off (by decide), k9, if_neg (by omega)]
        · rw [up_at]
          show (if f = n then C 21 n else M2 11 f) = _
          rw [if_neg (by omega), kc 11 (by decide) (by decide) (by decide)]
        · rw [up_off (by decide), k10, if_neg (by omega), if_neg (by omega)]
        · rw [up_off (by decide), k10, if_neg (by omega), if_neg (by omega)]
      refine m_head hR3 ⟨by omega, ?_⟩ hx (allF_mono (fun f hf (hl : f < 100) => ag f (by omega) (by unfold okd at hf; omega)) _ ht)
      rw [← h16]
      apply q
      · refine hk2.tr ⟨fun c hc => ?_, fun i _ => ?_⟩
        · rw [up_off (by omega), up_off (by omega)]
        · rw [up_off (by decide), up_off (by decide)]
      · intro f f0 f1
        by_cases e : f = n
        · subst e
          refine ⟨?_, ?_, ?_, ?_, fun _ => ?_, fun _ => ?_⟩
          · rw [up_off (by decide), up_off (by decide), k8, if_pos rfl, e3]
          · rw [up_at]
            simp
          · rw [up_off (by decide), up_off (by decide), k9, if_pos rfl]
          · rw [up_off (by decide), up_at]
            simp
          · rw [up_off (by decide), up_off (by decide), k10, if_neg (by omega), if_pos rfl]
          · rw [up_off (by decide), up_off (by decide), k10, if_pos rfl]
        · have := ag f f0 (by omega)
          refine this.ext ?_ ?_ ?_ ?_ ?_ ?_
          · rw [up_off (by decide)]
          · rw [up_at]
            show (if f = n then C 16 n else _) = _
            rw [if_neg e]
          · rw [up_off (by decide)]
          · rw [up_off (by decide)]
          · rw [up_off (by decide)]
          · rw [up_off (by decide)]
    · -- node i - 1
      obtain ⟨p, rfl⟩ : ∃ p : Nat, i = p + 1 := ⟨i - 1, by omega⟩
      have ep : ((p + 1 : Nat) : Int) - 1 = (p : Int) := by omega
      rw [ep] at z ⊢
      have hpm : p < m := by omega
      have hlp := lz p hpm
      have hf := hT.fr hlp.1 hlp.2 h12
      have hop := oz p hpm
      have m15 := w.1
      have c4 : Mc 4 (l p) = C 4 (l p) := (hR.2.2.2.2.1 _ hlp.1 hlp.2).1
      rw [hl, c4]
      have hfn : C 4 (l p) < 100 → C 4 (l p) < C 2 7 := by
        clear hh2
        omega
      have hok : C 4 (l p) < 100 → C 4 (l p) < n := by
        clear hh2
        unfold okd at hop
        omega
      -- the node is weighed
      have nxt : ∀ y0, 0 ≤ y0 → y0 ≤ n → (∀ z : Nat, p ≤ z → z < m → C 4 (l z) < 100 → C 15 (C 4 (l z)) ≤ y0) → (y0 = 0 ∨ ∃ z : Nat, p ≤ z ∧ z < m ∧ C 4 (l z) < 100 ∧ C 15 (C 4 (l z)) = y0) → w_X4_findName_J127 Q (w_X4_findName_L79 Q j) Mc n x (p : Int) y0 := fun y0 y1 y2 y3 y4 => by
        have wk := w.2.2.2.2.2 p hpm
        have ec : pcn M0 (l p) = if C 4 (l p) < 100 then C 12 (C 4 (l p)) else 0 := by
          unfold pcn
          rw [fz p hpm]
          by_cases c : C 4 (l p) < 100
          · rw [if_pos c, if_pos c, (h0.2.2.1 _ hf.1 (hfn c)).1]
          · rw [if_neg c, if_neg c]
        have xx := h0.2.2.2.2.1 _ hlp.1 hlp.2
        unfold w_X4_findName_J127
        rw [hl]
        refine ⟨by omega, m_weighs hR hlp (fun c => ha _ hf.1 (hok c)) (fun c => ?_) (fun c => ?_) (fun M' hw hy => ⟨by unfold rg; omega, ?_⟩)⟩
        · have c0 : 0 < pcn M0 (l p) := by
            rw [ec]
            rcases hT.1 (l p) hlp.1 hlp.2 with g | ⟨g1, g2, g3, g4, g5⟩
            · omega
            · rw [if_pos (by omega)]
              by_cases d : C 12 (C 4 (l p)) < 1
              · have := g2 d
                omega
              · omega
          have e := wk.2.2.1 c0
          rw [xx.2.1] at e
          rw [← e]
          have hc := TM_pcn TM0 hlp
          have := hwt (fpos M0 l p).toNat (by omega) (by omega)
          rw [Int.toNat_of_nonneg (by omega)] at this
          exact this
        · have c0 : 1 < pcn M0 (l p) := by
            rw [ec]
            rcases hT.1 (l p) hlp.1 hlp.2 with g | ⟨g1, g2, g3, g4, g5⟩
            · omega
            · rw [if_pos (by omega)]
              by_cases d : C 12 (C 4 (l p)) < 2
              · have := g4 d
                omega
              · omega
          have e := wk.2.2.2 c0
          rw [xx.2.2.1] at e
          rw [← e]
          have := hwt (fpos M0 l p + 1).toNat (by omega) (by omega)
          rw [Int.toNat_of_nonneg (by omega)] at this
          exact this
        · have := ih p M' y0 (hk.tr (wsame_keeps hw)) (by rw [hw.1 7 (by decide) (by decide) (by decide)]; exact hl) (fun f f0 f1 => (ha f f0 f1).ext (by rw [hw.1 8 (by decide) (by decide) (by decide)]) (by rw [hw.1 12 (by decide) (by decide) (by decide)]) (by rw [hw.1 9 (by decide) (by decide) (by decide)]) (by rw [hw.1 11 (by decide) (by decide) (by decide)]) (by rw [hw.1 10 (by decide) (by decide) (by decide)]) (by rw [hw.1 10 (by decide) (by decide) (by decide)])) (by omega) (by omega) (fun z z1 z2 => ?_) y1 y2 y3 y4
          · rw [show (p : Int) + -1 = (p : Int) - 1 by omega]
            exact this
          · by_cases e : z = p
            · rw [e]
              exact hy
            · exact wsame_WT hw hy (hwt z (by omega) z2)
      have old1 : (C 4 (l p) < 100 → C 15 (C 4 (l p)) ≤ x3) → ∀ z : Nat, p ≤ z → z < m → C 4 (l z) < 100 → C 15 (C 4 (l z)) ≤ x3 := fun hp z z1 z2 z3 => by
        by_cases e : z = p
        · rw [e] at z3 ⊢
          exact hp z3
        · exact hh1 z (by omega) z2 z3
      have old2 : x3 = 0 ∨ ∃ z : Nat, p ≤ z ∧ z < m ∧ C 4 (l z) < 100 ∧ C 15 (C 4 (l z)) = x3 := by
        rcases hh2 with e | ⟨z, z1, z2, z3, z4⟩
        · exact Or.inl e
        · exact Or.inr ⟨z, by omega, z2, z3, z4⟩
      refine ⟨by omega, by omega, fun c => nxt x3 hp0 hp1 (old1 (fun d => by omega)) old2, fun c => ?_⟩
      have hnm : 0 ≤ C 4 (l p) ∧ C 4 (l p) < n := by unfold okd at hop; omega
      have e8 : Mc 8 (C 4 (l p)) = C 15 (C 4 (l p)) := (ha _ hnm.1 hnm.2).1
      have hr := (hNC _ hnm.1 (by omega)).2.1
      rw [e8]
      refine ⟨by omega, fun d => nxt x3 hp0 hp1 (old1 (fun _ => d)) old2, fun d => ⟨by omega, nxt _ hr.1 (by omega) (fun z z1 z2 z3 => ?_) (Or.inr ⟨p, Nat.le_refl p, hpm, by omega, rfl⟩)⟩⟩
      by_cases e : z = p
      · rw [e]
        exact Int.le_refl _
      · have := hh1 z (by omega) z2 z3
        omega
end H
