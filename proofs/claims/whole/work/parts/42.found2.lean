/-! the reference: all names are found; ofName, front, size side by side -/
section H
variable {k : Int} {C M : Mem} {n x y a b : Int}
theorem m_findName {Q : Mem → Prop} (h : Rel k C M) (hn : isnm C n) (hag : ∀ f, 0 ≤ f → f < n → AGf C M f) (q : ∀ M', keeps M M' → (∀ f, 0 ≤ f → f < n + 1 → AGf C M' f) → Q M') : w_X4_findName M n Q := by
  obtain ⟨⟨r0, r1, r2⟩, hnn, hn2, hxx, ht, hc⟩ := h.2
  obtain ⟨t0, t9, th⟩ := h.1.2.1
  obtain ⟨hB, -, hT, -, hNC, -⟩ := id h.1
  have h12 := hB.2.1
  have hn0 := hn.1
  have hn1 := hn.2
  refine ⟨by omega, by omega, by unfold rg; omega, by omega, by unfold rg; omega, by unfold rg; omega, by omega, by omega, by omega, ?_⟩
  generalize hM1 : up (up (up (up (up (up M 8 n 0) 9 n 1) 10 (2 * n) 1) 10 (2 * n + 1) 1) 11 n 0) 12 n n = M1
  have kc : ∀ c : Nat, (c < 8 ∨ 12 < c) → M1 c = M c := fun c hc => by rw [← hM1, up_off (by omega), up_off (by omega), up_off (by omega), up_off (by omega), up_off (by omega), up_off (by omega)]
  have k8 : ∀ i, M1 8 i = if i = n then 0 else M 8 i := fun i => by rw [← hM1]; simp [up]
  have k9 : ∀ i, M1 9 i = if i = n then 1 else M 9 i := fun i => by rw [← hM1]; simp [up]
  have k10 : ∀ i, M1 10 i = if i = 2 * n + 1 then 1 else if i = 2 * n then 1 else M 10 i := fun i => by rw [← hM1]; simp [up]
  have k11 : ∀ i, M1 11 i = if i = n then 0 else M 11 i := fun i => by rw [← hM1]; simp [up]
  have k12 : ∀ i, M1 12 i = if i = n then n else M 12 i := fun i => by rw [← hM1]; simp [up]
  have hk1 : keeps M M1 := ⟨fun c hc => kc c (by omega), fun i _ => by rw [kc 0 (by omega)]⟩
  have hR1 : Rel (k + 1) C M1 := h.keep hk1
  have ag1 : ∀ f, 0 ≤ f → f < n → AGf C M1 f := fun f f0 f1 => (hag f f0 f1).ext (by rw [k8, if_neg (by omega)]) (by rw [k12, if_neg (by omega)]) (by rw [k9, if_neg (by omega)]) (by rw [k11, if_neg (by omega)]) (by rw [k10, if_neg (by omega), if_neg (by omega)]) (by rw [k10, if_neg (by omega), if_neg (by omega)])
  obtain ⟨⟨nc1, nc2⟩, nr⟩ := hNC n hn0 hn1
  have e2 : M1 2 n = C 13 n := by rw [kc 2 (by omega)]; exact (hnn n hn0 hn1).2.1
  have e3 : M1 3 n = C 14 n := by rw [kc 3 (by omega)]; exact (hnn n hn0 hn1).2.2
  refine m_fold (by omega) (fun nf => ⟨fun e => absurd rfl e, fun _ => ?_⟩) (fun fo => ⟨fun _ => ⟨by omega, ?_⟩, fun e => absurd e (by decide)⟩)
  · rw [e2, e3] at nf
    obtain ⟨v1, v2, v3, v4, v5, v6⟩ := nc1 nf
    refine q M1 hk1 (fun f f0 f1 => ?_)
    by_cases e : f = n
    · rw [e]
      refine ⟨by rw [k8, if_pos rfl, v1], by rw [k12, if_pos rfl, v2], by rw [k9, if_pos rfl, v5], by rw [k11, if_pos rfl, v6], fun z => ?_, fun z => ?_⟩
      · rw [k10, if_neg (by omega), if_pos rfl, v3, if_pos z]
      · rw [k10, if_pos rfl, v4, if_pos z]
    · exact ag1 f f0 (by omega)
  · rw [e2] at fo ⊢
    rw [e3] at fo
    obtain ⟨v1, v2, v3, v4, v5, v6⟩ := nc2 fo
    have hdf : 0 ≤ C 13 n ∧ C 13 n < C 1 8 ∧ allF (okd n (C 12 n)) (vC C (C 13 n)) := by
      rcases (hB.2.2 n hn0 hn1).2.2 with z | z
      · exact absurd z fo.1
      · exact z
    refine m_gt (Rel_TM hR1) ⟨hdf.1, hdf.2.1⟩ (Rel_siz hR1 hdf.1 hdf.2.1) (fun M2 m hg hm w => ?_)
    have m15 := w.1
    have hk2 := gsame_keeps hg
    have g : ∀ c : Nat, c = 8 ∨ c = 9 ∨ c = 10 ∨ c = 11 ∨ c = 12 → M2 c = M1 c := fun c hc => hg.1 c (by omega) (by omega)
    rw [hm]
    refine ⟨by unfold rg; omega, m + 1, ?_⟩
    refine m_fnL hR1 hn ⟨hdf.1, hdf.2.1⟩ w hdf.2.2 v1 v2 v3 v4 v5 v6 (fun M' hk' ha' => q M' (hk1.tr hk') ha') (m + 1) m M2 0 hk2 rfl (fun f f0 f1 => (ag1 f f0 f1).ext (by rw [g 8 (by omega)]) (by rw [g 12 (by omega)]) (by rw [g 9 (by omega)]) (by rw [g 11 (by omega)]) (by rw [g 10 (by omega)]) (by rw [g 10 (by omega)])) (Nat.le_refl m) (by omega) (fun z z1 z2 => by omega) (Int.le_refl 0) hn0 (fun z z1 z2 => by omega) (Or.inl rfl)
theorem m_findNames {Q : Mem → Prop} (h : Rel k C M) (q : ∀ M', keeps M M' → (∀ f, 0 ≤ f → f < C 2 7 → AGf C M' f) → Q M') : w_X4_findNames M Q := by
  obtain ⟨r0, r1, r2⟩ := h.2.1
  have h12 := h.1.1.2.1
  have h00 := h.1.1.1
  have L : ∀ (j i : Nat) (M1 : Mem), keeps M M1 → (i : Int) ≤ C 2 7 → C 2 7 - i < j → (∀ f, 0 ≤ f → f < (i : Int) → AGf C M1 f) → w_X4_findNames_L2 Q j M1 i := by
    intro j
    induction j with
    | zero => intro i M1 hk h1 h2; omega
    | succ j ih =>
      intro i M1 hk h1 h2 ha
      have hR : Rel (k + 1) C M1 := h.keep hk
      rw [w_X4_findNames_L2]
      rw [hk.2 0 (by omega), r0]
      refine ⟨fun z => q M1 hk (fun f f0 f1 => ha f f0 (by omega)), fun z => m_findName hR ⟨by omega, by omega⟩ ha (fun M' hk' ha' => ⟨by unfold rg; omega, ?_⟩)⟩
      have := ih (i + 1) M' (hk.tr hk') (by omega) (by omega) (fun f f0 f1 => ha' f f0 (by omega))
      simpa using this
  exact ⟨(C 2 7).toNat + 1, L _ 0 M keeps.rf (by omega) (by omega) (fun f f0 f1 => by omega)⟩
theorem p_ofName (h : Rel k C M) : w_X3_ofName C n x (fun r C' => w_X4_ofName M n x (fun r' M' => r = r' ∧ Rel (k + 1) C' M')) := by
  obtain ⟨⟨r0, r1, r2⟩, hnn, hn2, hxx, ht, hc⟩ := h.2
  have h12 := h.1.1.2.1
  have h00 := h.1.1.1
  refine c_ofName h.1 (fun z => ?_) (fun z => ?_)
  · exact m_isName (by omega) (fun q => absurd (by unfold isnm; omega) z) (fun q => ⟨fun e => absurd rfl e, fun _ => ⟨rfl, h.up1⟩⟩)
  · have hn0 := z.1
    have hn1 := z.2
    obtain ⟨a1, a2, a3⟩ := hnn n hn0 hn1
    have hb := (h.1.1.2.2 n hn0 hn1).2.1
    refine m_isName (by omega) (fun q => ⟨fun _ => m_findNames h (fun M' hk ha => ?_), fun e => absurd e (by decide)⟩) (fun q => absurd (by omega) q)
    have hR := h.keep hk
    rw [hk.1 1 (by omega), hk.1 2 (by omega), hk.1 3 (by omega), a1, a2, a3, (ha n hn0 hn1).1]
    refine ⟨fun e => ?_, fun e => ⟨by omega, ?_⟩, fun e => ⟨by omega, ?_⟩, fun e => ⟨by omega, fun g => ?_, fun g => ?_⟩, fun e => ⟨by omega, ?_⟩⟩
    · rw [if_neg (by omega), if_neg (by omega), if_neg (by omega), if_neg (by omega)]
      exact ⟨rfl, hR⟩
    · rw [if_pos e]
      exact ⟨rfl, hR⟩
    · rw [if_neg (by omega), if_pos e]
      exact ⟨rfl, hR⟩
    · rw [if_neg (by omega), if_neg (by omega), if_pos e]
      exact ⟨g, hR⟩
    · rw [if_neg (by omega), if_neg (by omega), if_pos e]
      exact ⟨by unfold b01 at hb; omega, hR⟩
    · rw [if_neg (by omega), if_neg (by omega), if_neg (by omega), if_pos e]
      exact ⟨rfl, hR⟩
theorem AG_all (hI : InvC C) (hx : made C x) (ha : ∀ f, 0 ≤ f → f < C 2 7 → AGf C M f) : allF (fun f => f < 100 → AGf C M f) (vC C x) :=
  allF_mono (fun f hf (hl : f < 100) => ha f (by omega) (by omega)) _ (fr_all hI.2.2.1 hI.1.2.1 (x.toNat + 1) x (by have := hx.1; omega) hx.2)
theorem p_front (h : Rel k C M) : w_X3_front C x (fun r C' => w_X4_front M x (fun r' M' => r = r' ∧ Rel (k + 1) C' M')) := by
  obtain ⟨r0, r1, r2⟩ := h.2.1
  obtain ⟨t0, t9, th⟩ := h.1.2.1
  refine c_front h.1 (fun z => ?_) (fun z => ?_)
  · exact m_isTerm (by omega) (fun q => absurd (by unfold made; omega) z) (fun q => ⟨fun e => absurd rfl e, fun _ => ⟨rfl, h.up1⟩⟩)
  · refine m_isTerm (by omega) (fun q => ⟨fun _ => m_findNames h (fun M' hk ha => m_head (h.keep hk) ⟨rfl, h.keep hk⟩ z (AG_all h.1 z ha)), fun e => absurd e (by decide)⟩) (fun q => absurd (by have := z.1; have := z.2; omega) q)
theorem m_waL {Q : Mem → Prop} {M0 : Mem} {l : Int → Int} {m : Nat} (h0 : Rel k C M0) (w : Walk M0 (C 1 8) x l m) (q : ∀ M', keeps M0 M' → WT C M' x → Q M') :
    ∀ (j i : Nat) (Mc : Mem), keeps M0 Mc → Mc 7 = l → (∀ f, 0 ≤ f → f < C 2 7 → AGf C Mc f) → i ≤ m → i < j → (∀ z : Nat, i ≤ z → z < m → WT C Mc (l z)) → w_X4_weighsAll_L16 Q j Mc ((i : Int) - 1) := by
  obtain ⟨t0, t9, th⟩ := h0.1.2.1
  obtain ⟨hB, -, hT, -, hNC, -⟩ := id h0.1
  have h12 := hB.2.1
  have TM0 := Rel_TM h0
  have lz : ∀ z : Nat, z < m → 0 ≤ l z ∧ l z < C 1 8 := fun z hz => w.2.2.2.1 z hz
  have fz : ∀ z : Nat, z < m → M0 4 (l z) = C 4 (l z) := fun z hz => (h0.2.2.2.2.1 _ (lz z hz).1 (lz z hz).2).1
  intro j
  induction j with
  | zero => intro i Mc hk hl ha h1 h2; omega
  | succ j ih =>
    intro i Mc hk hl ha him hij hwt
    have hR : Rel (k + 1) C Mc := h0.keep hk
    rw [w_X4_weighsAll_L16]
    refine ⟨fun z => ?_, fun z => ?_⟩
    · have hi : i = 0 := by omega
      subst hi
      have := hwt 0 (Nat.le_refl 0) (by have := w.1; omega)
      rw [show l ((0 : Nat) : Int) = x from w.2.2.1] at this
      exact q Mc hk this
    · obtain ⟨p, rfl⟩ : ∃ p : Nat, i = p + 1 := ⟨i - 1, by omega⟩
      have ep : ((p + 1 : Nat) : Int) - 1 = (p : Int) := by omega
      rw [ep] at z ⊢
      have hpm : p < m := by omega
      have hlp := lz p hpm
      have hf := hT.fr hlp.1 hlp.2 h12
      have m15 := w.1
      have wk := w.2.2.2.2.2 p hpm
      have ec : pcn M0 (l p) = if C 4 (l p) < 100 then C 12 (C 4 (l p)) else 0 := by
        unfold pcn
        rw [fz p hpm]
        by_cases c : C 4 (l p) < 100
        · rw [if_pos c, if_pos c, (h0.2.2.1 _ hf.1 (by omega)).1]
        · rw [if_neg c, if_neg c]
      have xx := h0.2.2.2.2.1 _ hlp.1 hlp.2
      rw [hl]
      refine ⟨by omega, m_weighs hR hlp (fun c => ha _ hf.1 (by omega)) (fun c => ?_) (fun c => ?_) (fun M' hw hy => ⟨by unfold rg; omega, ?_⟩)⟩
      · have c0 : 0 < pcn M0 (l p) := by
          rw [ec]
          rcases hT.1 (l p) hlp.1 hlp.2 with g | ⟨g1, g2, g3, g4, g5⟩
          · omega
          · rw [if_pos (by omega)]
            by_cases d : C 12 (C 4 (l p)) < 1
            · have := g2 d
              omega
            · omega
        have e := wk.2.2.1 c0
        rw [xx.2.1] at e
        rw [← e]
        have hc := TM_pcn TM0 hlp
        have := hwt (fpos M0 l p).toNat (by omega) (by omega)
        rw [Int.toNat_of_nonneg (by omega)] at this
        exact this
      · have c0 : 1 < pcn M0 (l p) := by
          rw [ec]
          rcases hT.1 (l p) hlp.1 hlp.2 with g | ⟨g1, g2, g3, g4, g5⟩
          · omega
          · rw [if_pos (by omega)]
            by_cases d : C 12 (C 4 (l p)) < 2
            · have := g4 d
              omega
            · omega
        have e := wk.2.2.2 c0
        rw [xx.2.2.1] at e
        rw [← e]
        have := hwt (fpos M0 l p + 1).toNat (by omega) (by omega)
        rw [Int.toNat_of_nonneg (by omega)] at this
        exact this
      · have := ih p M' (hk.tr (wsame_keeps hw)) (by rw [hw.1 7 (by decide) (by decide) (by decide)]; exact hl) (fun f f0 f1 => (ha f f0 f1).ext (by rw [hw.1 8 (by decide) (by decide) (by decide)]) (by rw [hw.1 12 (by decide) (by decide) (by decide)]) (by rw [hw.1 9 (by decide) (by decide) (by decide)]) (by rw [hw.1 11 (by decide) (by decide) (by decide)]) (by rw [hw.1 10 (by decide) (by decide) (by decide)]) (by rw [hw.1 10 (by decide) (by decide) (by decide)])) (by omega) (by omega) (fun z z1 z2 => ?_)
        · rw [show (p : Int) + -1 = (p : Int) - 1 by omega]
          exact this
        · by_cases e : z = p
          · rw [e]
            exact hy
          · exact wsame_WT hw hy (hwt z (by omega) z2)
theorem m_weighsAll {Q : Mem → Prop} (h : Rel k C M) (hx : made C x) (q : ∀ M', keeps M M' → WT C M' x → Q M') : w_X4_weighsAll M x Q := by
  refine m_findNames h (fun M1 hk1 ha1 => ?_)
  have hR1 := h.keep hk1
  refine m_gt (Rel_TM hR1) hx (Rel_siz hR1 hx.1 hx.2) (fun M2 m hg hm w => ?_)
  have m15 := w.1
  have g : ∀ c : Nat, c = 8 ∨ c = 9 ∨ c = 10 ∨ c = 11 ∨ c = 12 → M2 c = M1 c := fun c hc => hg.1 c (by omega) (by omega)
  rw [hm]
  refine ⟨by unfold rg; omega, m + 1, ?_⟩
  exact m_waL hR1 w (fun M' hk' hw' => q M' (hk1.tr hk') hw') (m + 1) m M2 (gsame_keeps hg) rfl (fun f f0 f1 => (ha1 f f0 f1).ext (by rw [g 8 (by omega)]) (by rw [g 12 (by omega)]) (by rw [g 9 (by omega)]) (by rw [g 11 (by omega)]) (by rw [g 10 (by omega)]) (by rw [g 10 (by omega)])) (Nat.le_refl m) (by omega) (fun z z1 z2 => by omega)
theorem p_size (h : Rel k C M) : w_X3_size C x y (fun r C' => w_X4_size M x y (fun r' M' => r = r' ∧ Rel (k + 1) C' M')) := by
  obtain ⟨⟨r0, r1, r2⟩, hnn, hn2, hxx, ht, hc⟩ := h.2
  obtain ⟨t0, t9, th⟩ := h.1.2.1
  have hB := h.1.1
  have h12 := hB.2.1
  refine c_size h.1 (fun z => ?_) (fun z => ?_)
  · exact m_isTerm (by omega) (fun q => absurd (by unfold made; omega) z) (fun q => ⟨fun _ => ⟨rfl, h.up1⟩, fun e => absurd rfl e⟩)
  · have hx0 := z.1
    have hx1 := z.2
    refine m_isTerm (by omega) (fun q => ⟨fun e => absurd e (by decide), fun _ => m_within (fun w => ⟨fun _ => ⟨fun e2 => ?_, fun e2 => ⟨fun e0 => ?_, fun e0 => ?_⟩⟩, fun e => absurd e (by decide)⟩) (fun w => ⟨fun e => absurd rfl e, fun _ => ?_⟩)⟩) (fun q => absurd (by omega) q)
    · refine m_weighsAll h z (fun M' hk hw => ?_)
      have hR := h.keep hk
      have s0 := inv_sat h.1 hx1 0 (by decide)
      have s1 := inv_sat h.1 hx1 1 (by decide)
      have s2 := inv_sat h.1 hx1 2 (by decide)
      obtain ⟨w0, w1, w2, w3⟩ := hw
      rw [w0, w1, w2, w3]
      refine ⟨fun e3 => ⟨by omega, by unfold rg; omega, by omega, ?_, by unfold rg; omega, by unfold rg; omega, by omega, ?_, m_atMost ⟨?_, hR⟩⟩, fun e3 => ⟨by omega, ?_⟩⟩
      · unfold sat at s0 s2
        unfold rl
        omega
      · unfold sat at s0 s1 s2
        unfold rl
        omega
      · rw [if_neg (by omega), if_neg (by omega), if_pos (by omega)]
        unfold wsz sadd imin MOST
        unfold sat at s0 s1 s2
        split <;> split <;> split <;> omega
      · rw [if_neg (by omega), if_neg (by omega), if_neg (by omega), if_pos e3]
        exact ⟨rfl, hR⟩
    · have e1 : y = 1 := by omega
      rw [if_neg (by omega), if_pos e1]
      refine m_usz (Rel_TM h) ⟨hx0, hx1⟩ (fun u u0 u1 => Rel_siz h u0 u1) (fun n n0 n1 => ?_) (fun M' hg => ⟨?_, h.keep (gsame_keeps hg)⟩)
      · rw [r0] at n1
        rw [(hnn n n0 n1).2.1]
        rcases (hB.2.2 n n0 n1).2.2 with e | e
        · exact Or.inl e
        · exact Or.inr ⟨e.1, e.2.1⟩
      · obtain ⟨a1, a2, a3, a4⟩ := hxx x hx0 hx1
        have hT := h.1.2.2.1
        have hf := hT.fr hx0 hx1 h12
        have hw := hT.wf x hx0 hx1
        unfold usz uszM
        rw [a1, a2, a3, Rel_vM h (x := C 5 x) (by omega), Rel_vM h (x := C 6 x) (by omega)]
        by_cases c : 100 ≤ C 4 x
        · rw [if_pos c, if_pos c]
        · obtain ⟨b1, b2, b3⟩ := hnn (C 4 x) hf.1 (by omega)
          rw [if_neg c, if_neg c, b2, b3]
          by_cases d : C 13 (C 4 x) ≠ -9 ∧ C 14 (C 4 x) = 0
          · have hd : C 13 (C 4 x) < C 1 8 := by
              rcases (hB.2.2 _ hf.1 (by omega)).2.2 with e | e
              · exact absurd e d.1
              · exact e.2.1
            rw [if_pos d, if_pos d, Rel_vM h hd]
          · rw [if_neg d, if_neg d]
    · rw [if_pos e0]
      refine m_psz (Rel_TM h) ⟨hx0, hx1⟩ (Rel_siz h hx0 hx1) (fun M' hg => ⟨?_, h.keep (gsame_keeps hg)⟩)
      rw [Rel_vM h hx1]
    · rw [if_neg (by omega), if_neg (by omega), if_neg (by omega), if_neg (by omega)]
      exact ⟨rfl, h.up1⟩
end H
