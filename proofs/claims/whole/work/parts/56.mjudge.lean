/-! the reference judges a pair -/
def MJ (C : Mem) (K : Int) (x y : Tr) (σ : SG) (prog : Tr → Tr → Prop) (r : Int) (σ' : SG) (t : Nat) : Prop :=
  ∀ (Q : Int → Mem → Prop) (M : Mem) (d n : Nat), BM C K x y σ prog M d → M 20 d = 0 → (∀ M2 : Mem, SM C K σ' prog M2 → M2 0 27 = (d : Int) → M2 0 31 = r → fbM d M M2 → extM M M2 → w_X4_judges_L11 Q n M2) → w_X4_judges_L11 Q (n + t) M
def MS (C : Mem) (K : Int) (x y : Tr) (σ : SG) (prog : Tr → Tr → Prop) (t : Nat) : Prop :=
  ∀ (Q : Int → Mem → Prop) (M : Mem) (d n : Nat), BM C K x y σ prog M d → M 20 d = 0 → (∀ M2 : Mem, SS C K M2 → M2 0 27 = (d : Int) → M2 0 31 = 0 → fbM d M M2 → w_X4_judges_L11 Q n M2) → w_X4_judges_L11 Q (n + t) M
/-- it is under way, and its fronts are looked at -/
def disp (M : Mem) (f g : Nat) (Q : Mem → Prop) : Prop := (¬ (f : Int) = g → w_X4_judgesNames M f g Q) ∧ ((f : Int) = g → w_X4_goesToPart M 0 Q)
def DJ (C : Mem) (K : Int) (x y : Tr) (f g : Nat) (σ : SG) (prog : Tr → Tr → Prop) (r : Int) (σ' : SG) (t : Nat) : Prop :=
  ∀ (Q : Int → Mem → Prop) (M : Mem) (d n : Nat), BM C K x y σ (PR prog x y) M d → (∀ M2 : Mem, SM C K σ' prog M2 → M2 0 27 = (d : Int) → M2 0 31 = r → fbM d M M2 → extM M M2 → w_X4_judges_L11 Q n M2) → disp M f g (fun M' => w_X4_judges_L11 Q (n + t) M')
def DS (C : Mem) (K : Int) (x y : Tr) (f g : Nat) (σ : SG) (prog : Tr → Tr → Prop) (t : Nat) : Prop :=
  ∀ (Q : Int → Mem → Prop) (M : Mem) (d n : Nat), BM C K x y σ (PR prog x y) M d → (∀ M2 : Mem, SS C K M2 → M2 0 27 = (d : Int) → M2 0 31 = 0 → fbM d M M2 → w_X4_judges_L11 Q n M2) → disp M f g (fun M' => w_X4_judges_L11 Q (n + t) M')
/-- a part of it has the answer v -/
def GJ (C : Mem) (K : Int) (x y : Tr) (σ : SG) (prog : Tr → Tr → Prop) (v w r : Int) (σ' : SG) (t : Nat) : Prop :=
  ∀ (Q : Int → Mem → Prop) (M : Mem) (d n : Nat), BM C K x y σ (PR prog x y) M d → M 20 d = w → M 0 31 = v → (∀ M2 : Mem, SM C K σ' prog M2 → M2 0 27 = (d : Int) → M2 0 31 = r → fbM d M M2 → extM M M2 → w_X4_judges_L11 Q n M2) → w_X4_judges_L11 Q (n + t) M
def GS (C : Mem) (K : Int) (x y : Tr) (σ : SG) (prog : Tr → Tr → Prop) (v w : Int) (t : Nat) : Prop :=
  ∀ (Q : Int → Mem → Prop) (M : Mem) (d n : Nat), BM C K x y σ (PR prog x y) M d → M 20 d = w → M 0 31 = v → (∀ M2 : Mem, SS C K M2 → M2 0 27 = (d : Int) → M2 0 31 = 0 → fbM d M M2 → w_X4_judges_L11 Q n M2) → w_X4_judges_L11 Q (n + t) M
section H
variable {C M : Mem} {K : Int} {x y : Tr} {σ σ1 σ2 σ' : SG} {prog : Tr → Tr → Prop} {r r1 v w : Int} {d n t t1 t2 : Nat} {Q : Int → Mem → Prop} {f g : Nat} {p1 p2 q1 q2 : Tr}
theorem hgt_fold (hI : InvC C) (hf : (f : Int) < C 2 7) (h1 : f < 100) : (foldN C f ↔ 0 < C 15 f) ∧ 0 ≤ C 15 f := by
  obtain ⟨hc, hr⟩ := hI.2.2.2.2.1 f (by omega) hf
  refine ⟨⟨fun h => ?_, fun h => ?_⟩, hr.1.1⟩
  · have := (hc.2 ⟨h.2.2.1, h.2.2.2⟩).1
    have := (mxh_facts (C 15) (vC C (C 13 f))).1
    omega
  · by_cases c : fold C f
    · exact ⟨h1, hf, c.1, c.2⟩
    · have := (hc.1 c).1
      omega
/-- a turn of the loop -/
theorem jl_begin (ho : M 0 27 = d + 1) (hd : (d : Int) ≤ 163) (h20 : M 20 d = 0) (k : w_X4_begins M (fun M18 => w_X4_judges_L11 Q n M18)) : w_X4_judges_L11 Q (n + 1) M := by
  rw [w_X4_judges_L11, show M 0 27 - 1 = (d : Int) by omega]
  exact ⟨fun z => by omega, fun _ => ⟨by unfold rg; omega, by omega, fun z => absurd h20 z, fun _ => k⟩⟩
theorem jl_on (ho : M 0 27 = d + 1) (hd : (d : Int) ≤ 163) (h20 : M 20 d = w) (hw : 0 < w ∧ w < 9) (k : w_X4_goesOn M (fun M18 => w_X4_judges_L11 Q n M18)) : w_X4_judges_L11 Q (n + 1) M := by
  rw [w_X4_judges_L11, show M 0 27 - 1 = (d : Int) by omega]
  exact ⟨fun z => by omega, fun _ => ⟨by unfold rg; omega, by omega, fun z => ⟨fun q => by omega, fun _ => k⟩, fun z => by omega⟩⟩
theorem jl_end (ho : M 0 27 = d + 1) (hd : (d : Int) ≤ 163) (h20 : M 20 d = 9) (h31 : M 0 31 = v) (k : w_X4_ends M v (fun M18 => w_X4_judges_L11 Q n M18)) : w_X4_judges_L11 Q (n + 1) M := by
  rw [w_X4_judges_L11, show M 0 27 - 1 = (d : Int) by omega, h31]
  exact ⟨fun z => by omega, fun _ => ⟨by unfold rg; omega, by omega, fun z => ⟨fun q => k, fun q => by omega⟩, fun z => by omega⟩⟩
/-- SPENT: the pair above is left too -/
theorem jl_spent (hK : 1 ≤ K ∧ K ≤ 1000) (ho : M 0 27 = d + 1) (hd : (d : Int) ≤ 163) (h20 : M 20 d = w) (hw : 0 < w ∧ w ≤ 9) (h31 : M 0 31 = 0) (ha : 0 ≤ M 18 d ∧ M 18 d < 740) (hb : 0 ≤ M 19 d ∧ M 19 d < 740) (h : SS C K M) (k : ∀ M2 : Mem, SS C K M2 → M2 0 27 = (d : Int) → M2 0 31 = 0 → fbM d M M2 → w_X4_judges_L11 Q n M2) : w_X4_judges_L11 Q (n + 1) M := by
  by_cases c : w = 9
  · exact jl_end ho hd (h20.trans c) h31 (m_endsS hK ho hd ha hb h k)
  · refine jl_on ho hd h20 (by omega) ?_
    unfold w_X4_goesOn
    rw [show M 0 27 - 1 = (d : Int) by omega]
    have := h.2.1
    exact ⟨by unfold rg; omega, by omega, fun z => by omega, fun _ => m_leavesS ho hd h k⟩
/-- begins: the state of the pair -/
theorem j_begins {Q' : Mem → Prop} (hK : 1 ≤ K ∧ K ≤ 1000) (h : BM C K x y σ prog M d)
    (ks : x = y → w_X4_leaves M 1 Q') (kk : x ≠ y → σ.1 x y ≠ 0 → w_X4_leaves M (σ.1 x y - 1) Q')
    (kn : x ≠ y → σ.1 x y = 0 → ∀ M1 : Mem, M1 = up M 0 20 (M 0 20 + 1) → ∀ f g : Nat, M 4 (M 18 d) = f → M 4 (M 19 d) = g → disp M1 f g Q') : w_X4_begins M Q' := by
  have hd := BM_d h
  obtain ⟨h1, h2, h3, h4, h5, h6, h7, h8⟩ := id h
  have h740 := h1.1.2.1.2.1
  have g23 := h1.2.2.2.1.2.2.2.2.1
  have g24 := h1.2.2.2.1.2.2.2.2.2
  have g20 := h1.2.2.2.1.2.1
  have hj := SM_j h1
  have hm := h1.2.2.2.2.1 _ _ h3.1 h3.2 h4.1 h4.2
  rw [h5, h6] at hm
  unfold w_X4_begins
  rw [show M 0 27 - 1 = (d : Int) by omega, g23, g24]
  have f1 := h1.1.2.1.fr h3
  have f2 := h1.1.2.1.fr h4
  refine ⟨by unfold rg; omega, by omega, by unfold rg; omega, by omega, by unfold rg; omega, by unfold rg; omega, by omega, fun z => absurd rfl z, fun _ => ⟨fun hne => ?_, fun heq => ⟨fun z => absurd g23 z, fun _ => ks (by rw [← h5, ← h6, heq])⟩⟩⟩
  have hxy : x ≠ y := fun e => hne (XM_inj h1.1 h3 h4 (by rw [h5, h6, e]))
  generalize hw : M 16 (740 * M 18 d + M 19 d) = w at hm ⊢
  by_cases c : σ.1 x y = 0
  · have q := hm.1 c
    have e1 : Int.tdiv w 2 = w / 2 := Int.tdiv_eq_ediv_of_nonneg q.1
    rw [e1]
    refine ⟨by unfold rg; omega, fun _ => ?_, fun z => by omega⟩
    have k := kn hxy c (up M 0 20 (M 0 20 + 1)) rfl (M 4 (M 18 d)).toNat (M 4 (M 19 d)).toNat (by omega) (by omega)
    unfold disp at k
    rw [Int.toNat_of_nonneg f1.1, Int.toNat_of_nonneg f2.1] at k
    have e4 : (up M 0 20 (M 0 20 + 1)) 4 = M 4 := up_off (by decide)
    rw [e4]
    exact ⟨by unfold rg; omega, by omega, by omega, fun z => ⟨by omega, by omega, k.1 z⟩, fun z => k.2 z⟩
  · have q := hm.2 c
    have hv := (h1.2.2.2.2.2.2.1 _ _ c).1
    have e1 : Int.tdiv w 2 = w / 2 := Int.tdiv_eq_ediv_of_nonneg (by omega)
    have e2 : Int.tmod w 2 = w % 2 := Int.tmod_eq_emod_of_nonneg (by omega)
    rw [e1, e2]
    have k := kk hxy c
    refine ⟨by unfold rg; omega, fun z => absurd (by omega) z, fun _ => ⟨by unfold rg; omega, fun z => ?_, fun z => ?_⟩⟩
    · rw [show σ.1 x y - 1 = 0 by omega] at k
      exact k
    · rw [show σ.1 x y - 1 = 1 by omega] at k
      exact k
theorem mj_same (hK : 1 ≤ K ∧ K ≤ 1000) : MJ C K x x σ prog 1 σ 1 := by
  intro Q M d n h h20 k
  refine jl_begin h.2.1 (BM_d h).2 h20 (j_begins hK h (fun _ => m_leaves h (Or.inr rfl) k) (fun z => absurd rfl z) (fun z => absurd rfl z))
theorem mj_known (hK : 1 ≤ K ∧ K ≤ 1000) (hne : x ≠ y) (hm : σ.1 x y ≠ 0) : MJ C K x y σ prog (σ.1 x y - 1) σ 1 := by
  intro Q M d n h h20 k
  have hv := (h.1.2.2.2.2.2.2.1 _ _ hm).1
  exact jl_begin h.2.1 (BM_d h).2 h20 (j_begins hK h (fun z => absurd z hne) (fun _ _ => m_leaves h (by omega) k) (fun _ z => absurd z hm))
/-- the pair, as it gets under way -/
theorem BM_new {M1 : Mem} (h : BM C K x y σ prog M d) (hm : σ.1 x y = 0) (hp : ¬ prog x y) (e1 : M1 = up M 0 20 (M 0 20 + 1)) : BM C K x y (σ.1, σ.2.1, σ.2.2.1 + 1, σ.2.2.2.1, σ.2.2.2.2) (PR prog x y) M1 d ∧ fbM d M M1 ∧ extM M M1 := by
  obtain ⟨h1, h2, h3, h4, h5, h6, h7, h8⟩ := h
  have kc : ∀ c : Nat, c ≠ 0 → M1 c = M c := fun c c0 => by rw [e1, up_off c0]
  have k0 : ∀ i, i ≠ 20 → M1 0 i = M 0 i := fun i hi => by rw [e1]; simp [up, hi]
  have k20 : M1 0 20 = σ.2.2.1 + 1 := by rw [e1, ← h1.2.2.2.1.2.1]; simp [up]
  have hs : mside M M1 := ⟨fun c hc => kc c (by omega), fun i hi => k0 i (by omega)⟩
  refine ⟨⟨SM_new h1 h3 h4 h5 h6 hm hp hs (kc 16 (by decide)) (fun i _ _ hi => k0 i hi) k20, by rw [k0 27 (by decide)]; exact h2, by rw [kc 18 (by decide), k0 5 (by decide)]; exact h3, by rw [kc 19 (by decide), k0 5 (by decide)]; exact h4, by rw [kc 18 (by decide), mside_vM hs]; exact h5, by rw [kc 19 (by decide), mside_vM hs]; exact h6, h7, h8⟩, fun i _ _ => by rw [kc 18 (by decide), kc 19 (by decide), kc 20 (by decide)]; exact ⟨rfl, rfl, rfl⟩, mside_ext hs⟩
theorem BM_fr (ex : x = nd f p1 p2) (ey : y = nd g q1 q2) (hf : f < 100) (hg : g < 100) (h : BM C K x y σ prog M d) : M 4 (M 18 d) = f ∧ M 4 (M 19 d) = g ∧ (f : Int) < C 2 7 ∧ (g : Int) < C 2 7 := by
  obtain ⟨h1, h2, h3, h4, h5, h6, h7, h8⟩ := h
  have a := XM_node h1.1 h3 (h5.trans ex) hf
  have b := XM_node h1.1 h4 (h6.trans ey) hg
  exact ⟨a.1, b.1, a.2.2.2.1, b.2.2.2.1⟩
theorem mj_new (hK : 1 ≤ K ∧ K ≤ 1000) (ex : x = nd f p1 p2) (ey : y = nd g q1 q2) (hf : f < 100) (hg : g < 100) (hne : x ≠ y) (hm : σ.1 x y = 0) (hp : ¬ prog x y) (hD : DJ C K x y f g (σ.1, σ.2.1, σ.2.2.1 + 1, σ.2.2.2.1, σ.2.2.2.2) prog r σ' t) : MJ C K x y σ prog r σ' (t + 1) := by
  intro Q M d n h h20 k
  refine jl_begin h.2.1 (BM_d h).2 h20 (j_begins hK h (fun z => absurd z hne) (fun _ z => absurd hm z) (fun _ _ M1 e1 f' g' ef eg => ?_))
  obtain ⟨b1, b2, -, -⟩ := BM_fr ex ey hf hg h
  obtain ⟨n1, n2, n3⟩ := BM_new h hm hp e1
  have z1 : f' = f := by omega
  have z2 : g' = g := by omega
  rw [z1, z2]
  exact hD Q M1 d n n1 (fun M2 s2 o2 a2 f2 x2 => k M2 s2 o2 a2 (n2.tr f2) (n3.tr x2))
theorem ms_new (hK : 1 ≤ K ∧ K ≤ 1000) (ex : x = nd f p1 p2) (ey : y = nd g q1 q2) (hf : f < 100) (hg : g < 100) (hne : x ≠ y) (hm : σ.1 x y = 0) (hp : ¬ prog x y) (hD : DS C K x y f g (σ.1, σ.2.1, σ.2.2.1 + 1, σ.2.2.2.1, σ.2.2.2.2) prog t) : MS C K x y σ prog (t + 1) := by
  intro Q M d n h h20 k
  refine jl_begin h.2.1 (BM_d h).2 h20 (j_begins hK h (fun z => absurd z hne) (fun _ z => absurd hm z) (fun _ _ M1 e1 f' g' ef eg => ?_))
  obtain ⟨b1, b2, -, -⟩ := BM_fr ex ey hf hg h
  obtain ⟨n1, n2, n3⟩ := BM_new h hm hp e1
  have z1 : f' = f := by omega
  have z2 : g' = g := by omega
  rw [z1, z2]
  exact hD Q M1 d n n1 (fun M2 s2 o2 a2 f2 => k M2 s2 o2 a2 (n2.tr f2))
/-- is a name folded? -/
theorem j_fold {Q : Int → Mem → Prop} (h : XM C M) (hI : InvC C) (hf : (f : Int) < C 2 7) (h1 : f < 100) (q0 : C 15 f = 0 → ¬ foldN C f → Q 0 M) (q1 : 0 < C 15 f → foldN C f → Q 1 M) : w_X4_isFolded M f Q := by
  have h12 := hI.1.2.1
  obtain ⟨e1, e2, e3, e8⟩ := h.1.2.1 f (by omega) hf
  obtain ⟨hh, h0⟩ := hgt_fold hI hf h1
  refine m_fold (by omega) (fun z => ?_) (fun z => ?_)
  · rw [e2, e3] at z
    have nf : ¬ foldN C f := fun q => z ⟨q.2.2.1, q.2.2.2⟩
    exact q0 (by
      by_cases c : 0 < C 15 f
      · exact absurd (hh.mpr c) nf
      · omega) nf
  · rw [e2, e3] at z
    have ff : foldN C f := ⟨h1, hf, z.1, z.2⟩
    exact q1 (hh.mp ff) ff
theorem dj_clash (hI : InvC C) (hK : 1 ≤ K ∧ K ≤ 1000) (ex : x = nd f p1 p2) (ey : y = nd g q1 q2) (hf : f < 100) (hg : g < 100) (hne : f ≠ g) (hhx : C 15 f = 0) (hhy : C 15 g = 0) : DJ C K x y f g σ prog 0 (mst σ.1 x y 1, σ.2.1, σ.2.2.1, (f : Int), (g : Int)) 0 := by
  intro Q M d n h k
  obtain ⟨b1, b2, b3, b4⟩ := BM_fr ex ey hf hg h
  refine ⟨fun _ => ?_, fun z => by omega⟩
  refine j_fold h.1.1 hI b3 hf (fun _ _ => j_fold h.1.1 hI b4 hg (fun _ _ => ⟨fun z => absurd rfl z, fun _ => ⟨fun z => absurd rfl z, fun _ => ?_⟩⟩) (fun z => by omega)) (fun z => by omega)
  generalize hM1 : up (up M 0 21 (f : Int)) 0 22 (g : Int) = M1
  have kc : ∀ c : Nat, c ≠ 0 → M1 c = M c := fun c c0 => by rw [← hM1, up_off c0, up_off c0]
  have k0 : ∀ i, i ≠ 21 → i ≠ 22 → M1 0 i = M 0 i := fun i a b => by rw [← hM1]; simp [up, a, b]
  have k21 : M1 0 21 = f := by rw [← hM1]; simp [up]
  have k22 : M1 0 22 = g := by rw [← hM1]; simp [up]
  have hs : mside M M1 := ⟨fun c hc => kc c (by omega), fun i hi => k0 i (by omega) (by omega)⟩
  obtain ⟨h1, h2, h3, h4, h5, h6, h7, h8⟩ := h
  have bm : BM C K x y (σ.1, σ.2.1, σ.2.2.1, (f : Int), (g : Int)) (PR prog x y) M1 d := ⟨SM_clash h1 hs (kc 16 (by decide)) (fun i _ _ a b => k0 i a b) k21 k22, by rw [k0 27 (by decide) (by decide)]; exact h2, by rw [kc 18 (by decide), k0 5 (by decide) (by decide)]; exact h3, by rw [kc 19 (by decide), k0 5 (by decide) (by decide)]; exact h4, by rw [kc 18 (by decide), mside_vM hs]; exact h5, by rw [kc 19 (by decide), mside_vM hs]; exact h6, h7, h8⟩
  refine m_ends hK bm (Or.inl rfl) (fun M2 s2 o2 a2 f2 x2 => k M2 s2 o2 a2 (fun i i0 i1 => ?_) ((mside_ext hs).tr x2))
  have q := f2 i i0 i1
  rw [kc 18 (by decide), kc 19 (by decide), kc 20 (by decide)] at q
  exact q
/-- two names, one folded at least: by their heights -/
theorem j_names {Q : Mem → Prop} (hI : InvC C) {ax ay more : Int} (ex : x = nd f p1 p2) (ey : y = nd g q1 q2) (hf : f < 100) (hg : g < 100) (hne : f ≠ g) (hh : 0 < C 15 f ∨ 0 < C 15 g) (hmo : hgtm (C 15 f) (C 15 g) ax ay more) (h : BM C K x y σ prog M d) (k : w_X4_unfoldsSome M ax ay Q) : disp M f g Q := by
  obtain ⟨b1, b2, b3, b4⟩ := BM_fr ex ey hf hg h
  have h12 := hI.1.2.1
  have h8f := (h.1.1.1.2.1 f (by omega) b3).2.2.2
  have h8g := (h.1.1.1.2.1 g (by omega) b4).2.2.2
  unfold hgtm at hmo
  refine ⟨fun _ => ?_, fun z => by omega⟩
  refine j_fold h.1.1 hI b3 hf (fun zf _ => j_fold h.1.1 hI b4 hg (fun zg _ => by omega) (fun zg _ => ⟨fun z => absurd rfl z, fun _ => ⟨fun _ => ⟨fun _ => ?_, fun z => absurd rfl z⟩, fun z => absurd z (by decide)⟩⟩)) (fun zf _ => j_fold h.1.1 hI b4 hg (fun zg _ => ⟨fun _ => ⟨fun z => absurd z (by decide), fun _ => ⟨fun _ => ?_, fun z => absurd rfl z⟩⟩, fun z => absurd z (by decide)⟩) (fun zg _ => ⟨fun _ => ⟨fun z => absurd z (by decide), fun _ => ⟨fun z => absurd z (by decide), fun _ => ⟨by omega, by omega, ?_⟩⟩⟩, fun z => absurd z (by decide)⟩))
  · have e1 : ax = 0 := by omega
    have e2 : ay = 1 := by omega
    rw [e1, e2] at k
    exact k
  · have e1 : ax = 1 := by omega
    have e2 : ay = 0 := by omega
    rw [e1, e2] at k
    exact k
  · unfold w_X4_judgesNames_J70
    rw [h8f, h8g]
    refine ⟨fun c => ⟨by omega, by omega, fun z => by omega, fun z => ?_⟩, fun c => ⟨by omega, by omega, fun z => ?_, fun z => ?_⟩⟩
    · have e1 : ax = 0 := by omega
      have e2 : ay = 1 := by omega
      rw [e1, e2] at k
      exact k
    · have e1 : ax = 1 := by omega
      have e2 : ay = 0 := by omega
      rw [e1, e2] at k
      exact k
    · have e1 : ax = 1 := by omega
      have e2 : ay = 1 := by omega
      rw [e1, e2] at k
      exact k
end H
