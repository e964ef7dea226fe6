/-! checked, many side by side -/
section H
variable {k : Int} {C M : Mem} {n x y a b : Int} {Q : Int → Mem → Prop}
theorem p_checked (h : Rel k C M) : w_X3_checked C x (fun r C' => w_X4_checked M x (fun r' M' => r = r' ∧ Rel (k + 1) C' M')) := by
  obtain ⟨-, -, -, -, ⟨t1, t2⟩, -⟩ := h.2
  refine c_checked (fun z => ?_) (fun z e => ?_) (fun z e => ?_)
  · exact m_within (fun q => absurd q z) (fun q => ⟨fun e => absurd rfl e, fun _ => ⟨rfl, h.up1⟩⟩)
  · exact m_within (fun q => ⟨fun _ => ⟨fun _ => ⟨rfl, h.up1⟩, fun e2 => absurd (t1.trans e) e2⟩, fun e => absurd e (by decide)⟩) (fun q => absurd z q)
  · refine m_within (fun q => ⟨fun _ => ⟨fun e2 => absurd (t1.symm.trans e2) e, fun _ => ⟨by omega, (t2 e x z.1 z.2).symm, h.up1⟩⟩, fun e => absurd e (by decide)⟩) (fun q => absurd z q)
theorem m_mn0 (h12 : M 0 0 ≤ 12) (q : Q (cntN (fun n => decide (M 2 n ≠ -9)) (M 0 0).toNat) M) : ∀ (j : Nat) (i : Nat), (i : Int) ≤ M 0 0 → M 0 0 - i < j → w_X4_manyNames_L4 Q j M 0 (cntN (fun n => decide (M 2 n ≠ -9)) i) i := by
  intro j
  induction j with
  | zero => intro i h1 h2; omega
  | succ j ih =>
    intro i h1 h2
    have hr := cntN_rng (fun n => decide (M 2 n ≠ -9)) i
    rw [w_X4_manyNames_L4]
    refine ⟨fun z => ?_, fun z => ⟨fun _ => ⟨by omega, fun e => ⟨by unfold rg; omega, by unfold rg; omega, ?_⟩, fun e => ⟨by unfold rg; omega, by unfold rg; omega, ?_⟩⟩, fun e => absurd rfl e⟩⟩
    · rw [show (M 0 0).toNat = i by omega] at q
      exact q
    · have := ih (i + 1) (by omega) (by omega)
      rw [cntN, if_neg (by simp [e])] at this
      simpa using this
    · have := ih (i + 1) (by omega) (by omega)
      rw [cntN, if_pos (by simp [e])] at this
      simpa using this
def foldM? (M : Mem) (n : Int) : Bool := decide (M 2 n ≠ -9 ∧ M 3 n = 0)
theorem m_mn1 (h12 : M 0 0 ≤ 12) (q : Q (cntN (foldM? M) (M 0 0).toNat) M) : ∀ (j : Nat) (i : Nat), (i : Int) ≤ M 0 0 → M 0 0 - i < j → w_X4_manyNames_L4 Q j M 1 (cntN (foldM? M) i) i := by
  intro j
  induction j with
  | zero => intro i h1 h2; omega
  | succ j ih =>
    intro i h1 h2
    have hr := cntN_rng (foldM? M) i
    rw [w_X4_manyNames_L4]
    refine ⟨fun z => ?_, fun z => ⟨fun e => absurd e (by decide), fun _ => m_fold ⟨by omega, by omega⟩ (fun e => ⟨fun _ => ⟨by unfold rg; omega, by unfold rg; omega, ?_⟩, fun e => absurd rfl e⟩) (fun e => ⟨fun e => absurd e (by decide), fun _ => ⟨by unfold rg; omega, by unfold rg; omega, ?_⟩⟩)⟩⟩
    · rw [show (M 0 0).toNat = i by omega] at q
      exact q
    · have := ih (i + 1) (by omega) (by omega)
      rw [cntN, if_neg (by unfold foldM?; rw [decide_eq_true_eq]; exact e)] at this
      simpa using this
    · have := ih (i + 1) (by omega) (by omega)
      rw [cntN, if_pos (by unfold foldM?; rw [decide_eq_true_eq]; exact e)] at this
      simpa using this
theorem m_mc {p : Int → Bool} {k0 : Int} {M0 : Mem} (h0 : Rel k0 C M0) (hp : ∀ x, 0 ≤ x → x < C 1 8 → (p x = true ↔ occ 100 (vC C x) = 0 ∧ occ 101 (vC C x) = 0)) (q : ∀ M', keeps M0 M' → Q (cntN p (C 1 8).toNat) M') : ∀ (j : Nat) (i : Nat) (M : Mem), keeps M0 M → (i : Int) ≤ C 1 8 → C 1 8 - i < j → w_X4_manyClosed_L4 Q j M (cntN p i) i := by
  intro j
  induction j with
  | zero => intro i M hk h1 h2; omega
  | succ j ih =>
    intro i M hk h1 h2
    have h : Rel (k0 + 1) C M := h0.keep hk
    obtain ⟨r0, r1, r2⟩ := h.2.1
    obtain ⟨t0, t9, th⟩ := h.1.2.1
    have hr := cntN_rng p i
    rw [w_X4_manyClosed_L4]
    refine ⟨fun z => ?_, fun z => ?_⟩
    · rw [show i = (C 1 8).toNat by omega]
      exact q M hk
    · have hi : (0 : Int) ≤ i ∧ (i : Int) < C 1 8 := by omega
      refine m_closed (Rel_TM h) hi (Rel_siz h hi.1 hi.2) (fun e M' hg => ⟨fun e => absurd e (by decide), fun _ => ⟨by unfold rg; omega, by unfold rg; omega, ?_⟩⟩) (fun e M' hg => ⟨fun _ => ⟨by unfold rg; omega, by unfold rg; omega, ?_⟩, fun e => absurd rfl e⟩)
      · rw [Rel_vM h hi.2] at e
        have := ih (i + 1) M' (hk.tr (gsame_keeps hg)) (by omega) (by omega)
        rw [cntN, if_pos ((hp i hi.1 hi.2).mpr e)] at this
        simpa using this
      · rw [Rel_vM h hi.2] at e
        have := ih (i + 1) M' (hk.tr (gsame_keeps hg)) (by omega) (by omega)
        rw [cntN, if_neg (fun z => e ((hp i hi.1 hi.2).mp z))] at this
        simpa using this
theorem p_many (h : Rel k C M) : w_X3_many C x (fun r C' => w_X4_many M x (fun r' M' => r = r' ∧ Rel (k + 1) C' M')) := by
  obtain ⟨⟨r0, r1, r2⟩, hn, hn2, hx, ht, hc⟩ := h.2
  obtain ⟨t0, t9, th⟩ := h.1.2.1
  have h12 := h.1.1.2.1
  have h00 := h.1.1.1
  refine c_many h.1 ⟨fun e => ?_, fun e => ?_, fun e => ?_, fun e => ⟨(M 0 0).toNat + 1, ?_⟩, fun e => ⟨(M 0 0).toNat + 1, ?_⟩, fun e => ⟨(C 1 8).toNat + 1, ?_⟩⟩
  · rw [if_neg (by omega), if_neg (by omega), if_neg (by omega), if_neg (by omega), if_neg (by omega)]
    exact ⟨rfl, h.up1⟩
  · rw [if_pos e]
    exact ⟨r0.symm, h.up1⟩
  · rw [if_neg (by omega), if_pos e]
    exact ⟨r1.symm, h.up1⟩
  · rw [if_neg (by omega), if_neg (by omega), if_pos e]
    refine m_mn0 (by omega) ⟨?_, h.up1⟩ _ 0 (by omega) (by omega)
    rw [r0]
    refine cntN_ext _ (fun i i0 i1 => ?_)
    rw [(hn i i0 (by omega)).2.1]
  · rw [if_neg (by omega), if_neg (by omega), if_neg (by omega), if_pos e]
    refine m_mn1 (by omega) ⟨?_, h.up1⟩ _ 0 (by omega) (by omega)
    rw [r0]
    refine cntN_ext _ (fun i i0 i1 => ?_)
    unfold fold? foldM?
    rw [(hn i i0 (by omega)).2.1, (hn i i0 (by omega)).2.2]
  · rw [if_neg (by omega), if_neg (by omega), if_neg (by omega), if_neg (by omega), if_pos e]
    refine m_mc h (p := clo? C) (fun y y0 y1 => ?_) (fun M' hk => ⟨rfl, h.keep hk⟩) _ 0 M keeps.rf (by omega) (by omega)
    obtain ⟨c1, c2, c3, c4, c5, c6⟩ := h.1.2.2.2.1 y y0 y1
    unfold clo?
    rw [decide_eq_true_eq, c5, c6]
end H
