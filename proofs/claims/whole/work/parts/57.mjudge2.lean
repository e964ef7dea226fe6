/-! the reference judges a pair: unfolding, parts -/
section H
variable {C M : Mem} {K : Int} {x y x' y' : Tr} {σ σ1 σ2 σ' : SG} {prog : Tr → Tr → Prop} {r r1 r2 v w ax ay more : Int} {d n t t1 t2 : Nat} {Q : Int → Mem → Prop} {f g : Nat} {p1 p2 q1 q2 : Tr}
theorem j_unf (hI : InvC C) (hK : 1 ≤ K ∧ K ≤ 1000) (ham : (ax = 1 ∧ ay = 1 ∧ more = 2) ∨ (ax = 1 ∧ ay = 0 ∧ more = 1) ∨ (ax = 0 ∧ ay = 1 ∧ more = 1))
    (hx1 : ax = 1 → ∃ f p q, x = nd f p q ∧ foldN C f ∧ x' = sub p q (dfn C f)) (hx0 : ax = 0 → x' = x) (hy1 : ay = 1 → ∃ f p q, y = nd f p q ∧ foldN C f ∧ y' = sub p q (dfn C f)) (hy0 : ay = 0 → y' = y)
    (h : BM C K x y σ (PR prog x y) M d) (hle : σ.2.1 + more ≤ 40) (hc : MJ C K x' y' (σ.1, σ.2.1 + more, σ.2.2.1, σ.2.2.2.1, σ.2.2.2.2) (PR prog x y) v σ1 t1) (hu : σ.2.1 + more ≤ σ1.2.1) (hv : v = 0 ∨ v = 1)
    (k : ∀ M2 : Mem, SM C K (mst σ1.1 x y (v + 1), σ1.2.1, σ1.2.2.1, σ1.2.2.2.1, σ1.2.2.2.2) prog M2 → M2 0 27 = (d : Int) → M2 0 31 = v → fbM d M M2 → extM M M2 → w_X4_judges_L11 Q n M2) : w_X4_unfoldsSome M ax ay (fun M' => w_X4_judges_L11 Q (n + (t1 + 1)) M') := by
  refine m_some hI hK ham hx1 hx0 hy1 hy0 h (fun z => by omega) (fun _ M2 b2 z20 z9 z18 z19 f2 x2 => ?_)
  rw [show n + (t1 + 1) = (n + 1) + t1 by omega]
  refine hc Q M2 (d + 1) (n + 1) b2 z20 (fun M3 s3 o3 a3 f3 x3 => ?_)
  have q := f3 d (by omega) (by omega)
  have bm : BM C K x y σ1 (PR prog x y) M3 d := BM_after h s3 o3 (q.1.trans z18) (q.2.1.trans z19) (x2.tr x3) (by omega)
  exact jl_end bm.2.1 (BM_d bm).2 (q.2.2.trans z9) a3 (m_ends hK bm hv (fun M4 s4 o4 a4 f4 x4 => k M4 s4 o4 a4 ((f2.tr (f3.le (by omega))).tr f4) ((x2.tr x3).tr x4)))
theorem j_unfS0 (hI : InvC C) (hK : 1 ≤ K ∧ K ≤ 1000) (ham : (ax = 1 ∧ ay = 1 ∧ more = 2) ∨ (ax = 1 ∧ ay = 0 ∧ more = 1) ∨ (ax = 0 ∧ ay = 1 ∧ more = 1))
    (hx1 : ax = 1 → ∃ f p q, x = nd f p q ∧ foldN C f ∧ x' = sub p q (dfn C f)) (hx0 : ax = 0 → x' = x) (hy1 : ay = 1 → ∃ f p q, y = nd f p q ∧ foldN C f ∧ y' = sub p q (dfn C f)) (hy0 : ay = 0 → y' = y)
    (h : BM C K x y σ (PR prog x y) M d) (hle : 40 < σ.2.1 + more)
    (k : ∀ M2 : Mem, SS C K M2 → M2 0 27 = (d : Int) → M2 0 31 = 0 → fbM d M M2 → w_X4_judges_L11 Q n M2) : w_X4_unfoldsSome M ax ay (fun M' => w_X4_judges_L11 Q n M') :=
  m_some hI hK ham hx1 hx0 hy1 hy0 h (fun _ => k) (fun z => by omega)
theorem j_unfS1 (hI : InvC C) (hK : 1 ≤ K ∧ K ≤ 1000) (ham : (ax = 1 ∧ ay = 1 ∧ more = 2) ∨ (ax = 1 ∧ ay = 0 ∧ more = 1) ∨ (ax = 0 ∧ ay = 1 ∧ more = 1))
    (hx1 : ax = 1 → ∃ f p q, x = nd f p q ∧ foldN C f ∧ x' = sub p q (dfn C f)) (hx0 : ax = 0 → x' = x) (hy1 : ay = 1 → ∃ f p q, y = nd f p q ∧ foldN C f ∧ y' = sub p q (dfn C f)) (hy0 : ay = 0 → y' = y)
    (h : BM C K x y σ (PR prog x y) M d) (hle : σ.2.1 + more ≤ 40) (hc : MS C K x' y' (σ.1, σ.2.1 + more, σ.2.2.1, σ.2.2.2.1, σ.2.2.2.2) (PR prog x y) t1)
    (k : ∀ M2 : Mem, SS C K M2 → M2 0 27 = (d : Int) → M2 0 31 = 0 → fbM d M M2 → w_X4_judges_L11 Q n M2) : w_X4_unfoldsSome M ax ay (fun M' => w_X4_judges_L11 Q (n + (t1 + 1)) M') := by
  have hd := BM_d h
  have h3 := h.2.2.1
  have h4 := h.2.2.2.1
  have h740 := h.1.1.2.1.2.1
  refine m_some hI hK ham hx1 hx0 hy1 hy0 h (fun z => by omega) (fun _ M2 b2 z20 z9 z18 z19 f2 x2 => ?_)
  rw [show n + (t1 + 1) = (n + 1) + t1 by omega]
  refine hc Q M2 (d + 1) (n + 1) b2 z20 (fun M3 s3 o3 a3 f3 => ?_)
  have q := f3 d (by omega) (by omega)
  have e18 := q.1.trans z18
  have e19 := q.2.1.trans z19
  exact jl_spent hK (by omega) hd.2 (q.2.2.trans z9) (by omega) a3 (by rw [e18]; omega) (by rw [e19]; omega) s3 (fun M4 s4 o4 a4 f4 => k M4 s4 o4 a4 ((f2.tr (f3.le (by omega))).tr f4))
theorem dj_names (hI : InvC C) (hK : 1 ≤ K ∧ K ≤ 1000) (ex : x = nd f p1 p2) (ey : y = nd g q1 q2) (hf : f < 100) (hg : g < 100) (hne : f ≠ g) (hh : 0 < C 15 f ∨ 0 < C 15 g) (hmo : hgtm (C 15 f) (C 15 g) ax ay more)
    (hx1 : ax = 1 → ∃ f p q, x = nd f p q ∧ foldN C f ∧ x' = sub p q (dfn C f)) (hx0 : ax = 0 → x' = x) (hy1 : ay = 1 → ∃ f p q, y = nd f p q ∧ foldN C f ∧ y' = sub p q (dfn C f)) (hy0 : ay = 0 → y' = y)
    (hle : σ.2.1 + more ≤ 40) (hc : MJ C K x' y' (σ.1, σ.2.1 + more, σ.2.2.1, σ.2.2.2.1, σ.2.2.2.2) (PR prog x y) v σ1 t1) (hu : σ.2.1 + more ≤ σ1.2.1) (hv : v = 0 ∨ v = 1) : DJ C K x y f g σ prog v (mst σ1.1 x y (v + 1), σ1.2.1, σ1.2.2.1, σ1.2.2.2.1, σ1.2.2.2.2) (t1 + 1) :=
  fun _ _ _ _ h k => j_names hI ex ey hf hg hne hh hmo h (j_unf hI hK (hgtm_am hmo) hx1 hx0 hy1 hy0 h hle hc hu hv k)
theorem ds_names0 (hI : InvC C) (hK : 1 ≤ K ∧ K ≤ 1000) (ex : x = nd f p1 p2) (ey : y = nd g q1 q2) (hf : f < 100) (hg : g < 100) (hne : f ≠ g) (hh : 0 < C 15 f ∨ 0 < C 15 g) (hmo : hgtm (C 15 f) (C 15 g) ax ay more)
    (hx1 : ax = 1 → ∃ f p q, x = nd f p q ∧ foldN C f ∧ x' = sub p q (dfn C f)) (hx0 : ax = 0 → x' = x) (hy1 : ay = 1 → ∃ f p q, y = nd f p q ∧ foldN C f ∧ y' = sub p q (dfn C f)) (hy0 : ay = 0 → y' = y)
    (hle : 40 < σ.2.1 + more) : DS C K x y f g σ prog 0 :=
  fun _ _ _ _ h k => j_names hI ex ey hf hg hne hh hmo h (j_unfS0 hI hK (hgtm_am hmo) hx1 hx0 hy1 hy0 h hle k)
theorem ds_names1 (hI : InvC C) (hK : 1 ≤ K ∧ K ≤ 1000) (ex : x = nd f p1 p2) (ey : y = nd g q1 q2) (hf : f < 100) (hg : g < 100) (hne : f ≠ g) (hh : 0 < C 15 f ∨ 0 < C 15 g) (hmo : hgtm (C 15 f) (C 15 g) ax ay more)
    (hx1 : ax = 1 → ∃ f p q, x = nd f p q ∧ foldN C f ∧ x' = sub p q (dfn C f)) (hx0 : ax = 0 → x' = x) (hy1 : ay = 1 → ∃ f p q, y = nd f p q ∧ foldN C f ∧ y' = sub p q (dfn C f)) (hy0 : ay = 0 → y' = y)
    (hle : σ.2.1 + more ≤ 40) (hc : MS C K x' y' (σ.1, σ.2.1 + more, σ.2.2.1, σ.2.2.2.1, σ.2.2.2.2) (PR prog x y) t1) : DS C K x y f g σ prog (t1 + 1) :=
  fun _ _ _ _ h k => j_names hI ex ey hf hg hne hh hmo h (j_unfS1 hI hK (hgtm_am hmo) hx1 hx0 hy1 hy0 h hle hc k)
/-- goesOn -/
theorem j_goon {Q : Mem → Prop} (hI : InvC C) (ex : x = nd f p1 p2) (hf : f < 100) (h : BM C K x y σ prog M d) (hw : M 20 d = w) (hw2 : w = 1 ∨ w = 2) (h31 : M 0 31 = v) (hv : v = 0 ∨ v = 1)
    (k1 : v = 1 → C 12 f ≤ w → w_X4_ends M 1 Q) (k2 : v = 1 → w < C 12 f → w_X4_goesToPart M w Q) (k3 : v = 0 → ¬ foldN C f → w_X4_ends M 0 Q) (k4 : v = 0 → foldN C f → w_X4_unfoldsSome M 1 1 Q) : w_X4_goesOn M Q := by
  have hd := BM_d h
  obtain ⟨h1, h2, h3, h4, h5, h6, h7, h8⟩ := id h
  have h740 := h1.1.2.1.2.1
  have g23 := h1.2.2.2.1.2.2.2.2.1
  obtain ⟨a4, -, -, afn, -⟩ := XM_node h1.1 h3 (h5.trans ex) hf
  have ec : pcn M (M 18 d) = C 12 f := by
    unfold pcn
    rw [if_pos (by omega), a4, (h1.1.1.2.1 f (by omega) afn).1]
  have j83 : w_X4_ends M v Q → w_X4_goesOn_J83 Q M := fun k => by
    unfold w_X4_goesOn_J83
    rw [h31]
    exact k
  unfold w_X4_goesOn
  rw [show M 0 27 - 1 = (d : Int) by omega, h31, hw]
  refine ⟨by unfold rg; omega, by omega, fun _ => ⟨fun e => ?_, fun e => ⟨by omega, m_partsOf h1.1.2.1 h3 ?_⟩⟩, fun z => absurd g23 z⟩
  · unfold w_X4_goesOn_J63
    rw [h31, a4]
    refine ⟨fun z => absurd e z, fun _ => ⟨by omega, j_fold h1.1 hI afn hf (fun _ nf => ⟨fun z => absurd rfl z, fun _ => j83 (by rw [e]; exact k3 e nf)⟩) (fun _ ff => ⟨fun _ => k4 e ff, fun z => absurd z (by decide)⟩)⟩⟩
  · have e1 : v = 1 := by omega
    rw [ec]
    refine ⟨fun c => ?_, fun c => ⟨by omega, ?_⟩⟩
    · unfold w_X4_goesOn_J63
      rw [h31]
      exact ⟨fun _ => j83 (by rw [e1]; exact k1 e1 c), fun z => absurd z e⟩
    · rw [hw]
      exact k2 e1 (by omega)
theorem gj_alike (hI : InvC C) (hK : 1 ≤ K ∧ K ≤ 1000) (ex : x = nd f p1 p2) (hf : f < 100) (hw2 : w = 1 ∨ w = 2) (har : C 12 f ≤ w) : GJ C K x y σ prog 1 w 1 (mst σ.1 x y 2, σ.2.1, σ.2.2.1, σ.2.2.2.1, σ.2.2.2.2) 1 := by
  intro Q M d n h hw h31 k
  exact jl_on h.2.1 (BM_d h).2 hw (by omega) (j_goon hI ex hf h hw hw2 h31 (Or.inr rfl) (fun _ _ => m_ends hK h (Or.inr rfl) k) (fun _ z => by omega) (fun z => absurd z (by decide)) (fun z => absurd z (by decide)))
theorem gj_no (hI : InvC C) (hK : 1 ≤ K ∧ K ≤ 1000) (ex : x = nd f p1 p2) (hf : f < 100) (hw2 : w = 1 ∨ w = 2) (hnf : ¬ foldN C f) : GJ C K x y σ prog 0 w 0 (mst σ.1 x y 1, σ.2.1, σ.2.2.1, σ.2.2.2.1, σ.2.2.2.2) 1 := by
  intro Q M d n h hw h31 k
  exact jl_on h.2.1 (BM_d h).2 hw (by omega) (j_goon hI ex hf h hw hw2 h31 (Or.inl rfl) (fun z => absurd z (by decide)) (fun z => absurd z (by decide)) (fun _ _ => m_ends hK h (Or.inl rfl) k) (fun _ z => absurd z hnf))
theorem gj_unf (hI : InvC C) (hK : 1 ≤ K ∧ K ≤ 1000) (ex : x = nd f p1 p2) (ey : y = nd f q1 q2) (hw2 : w = 1 ∨ w = 2) (hfo : foldN C f) (hle : σ.2.1 + 2 ≤ 40) (hc : MJ C K (sub p1 p2 (dfn C f)) (sub q1 q2 (dfn C f)) (σ.1, σ.2.1 + 2, σ.2.2.1, σ.2.2.2.1, σ.2.2.2.2) (PR prog x y) v σ1 t1) (hu : σ.2.1 + 2 ≤ σ1.2.1) (hv : v = 0 ∨ v = 1) : GJ C K x y σ prog 0 w v (mst σ1.1 x y (v + 1), σ1.2.1, σ1.2.2.1, σ1.2.2.2.1, σ1.2.2.2.2) (t1 + 2) := by
  intro Q M d n h hw h31 k
  exact jl_on h.2.1 (BM_d h).2 hw (by omega) (j_goon hI ex hfo.1 h hw hw2 h31 (Or.inl rfl) (fun z => absurd z (by decide)) (fun z => absurd z (by decide)) (fun _ z => absurd hfo z) (fun _ _ => j_unf hI hK (Or.inl ⟨rfl, rfl, rfl⟩) (fun _ => ⟨f, p1, p2, ex, hfo, rfl⟩) (fun z => absurd z (by decide)) (fun _ => ⟨f, q1, q2, ey, hfo, rfl⟩) (fun z => absurd z (by decide)) h hle hc hu hv k))
theorem gs_unf0 (hI : InvC C) (hK : 1 ≤ K ∧ K ≤ 1000) (ex : x = nd f p1 p2) (ey : y = nd f q1 q2) (hw2 : w = 1 ∨ w = 2) (hfo : foldN C f) (hle : 40 < σ.2.1 + 2) : GS C K x y σ prog 0 w 1 := by
  intro Q M d n h hw h31 k
  exact jl_on h.2.1 (BM_d h).2 hw (by omega) (j_goon hI ex hfo.1 h hw hw2 h31 (Or.inl rfl) (fun z => absurd z (by decide)) (fun z => absurd z (by decide)) (fun _ z => absurd hfo z) (fun _ _ => j_unfS0 hI hK (Or.inl ⟨rfl, rfl, rfl⟩) (fun _ => ⟨f, p1, p2, ex, hfo, rfl⟩) (fun z => absurd z (by decide)) (fun _ => ⟨f, q1, q2, ey, hfo, rfl⟩) (fun z => absurd z (by decide)) h hle k))
theorem gs_unf1 (hI : InvC C) (hK : 1 ≤ K ∧ K ≤ 1000) (ex : x = nd f p1 p2) (ey : y = nd f q1 q2) (hw2 : w = 1 ∨ w = 2) (hfo : foldN C f) (hle : σ.2.1 + 2 ≤ 40) (hc : MS C K (sub p1 p2 (dfn C f)) (sub q1 q2 (dfn C f)) (σ.1, σ.2.1 + 2, σ.2.2.1, σ.2.2.2.1, σ.2.2.2.2) (PR prog x y) t1) : GS C K x y σ prog 0 w (t1 + 2) := by
  intro Q M d n h hw h31 k
  exact jl_on h.2.1 (BM_d h).2 hw (by omega) (j_goon hI ex hfo.1 h hw hw2 h31 (Or.inl rfl) (fun z => absurd z (by decide)) (fun z => absurd z (by decide)) (fun _ z => absurd hfo z) (fun _ _ => j_unfS1 hI hK (Or.inl ⟨rfl, rfl, rfl⟩) (fun _ => ⟨f, p1, p2, ex, hfo, rfl⟩) (fun z => absurd z (by decide)) (fun _ => ⟨f, q1, q2, ey, hfo, rfl⟩) (fun z => absurd z (by decide)) h hle hc k))
/-- a pair of parts, and what comes behind it -/
theorem j_part {i : Int} (hi : i = 0 ∨ i = 1) (ex : x = nd f p1 p2) (ey : y = nd f q1 q2) (hf : f < 100) (har : i < C 12 f) (h : BM C K x y σ (PR prog x y) M d) (hc : MJ C K (if i = 0 then p1 else p2) (if i = 0 then q1 else q2) σ (PR prog x y) r1 σ1 t1) (hu : σ.2.1 ≤ σ1.2.1)
    (k : ∀ M2 : Mem, BM C K x y σ1 (PR prog x y) M2 d → M2 20 d = 1 + i → M2 0 31 = r1 → fbM d M M2 → extM M M2 → w_X4_judges_L11 Q n M2) : w_X4_goesToPart M i (fun M' => w_X4_judges_L11 Q (n + t1) M') := by
  refine m_toPart hi ex ey hf har h (fun M2 b2 z20 z9 z18 z19 f2 x2 => ?_)
  refine hc Q M2 (d + 1) n b2 z20 (fun M3 s3 o3 a3 f3 x3 => ?_)
  have q := f3 d (by omega) (by omega)
  exact k M3 (BM_after h s3 o3 (q.1.trans z18) (q.2.1.trans z19) (x2.tr x3) (by omega)) (q.2.2.trans z9) a3 (f2.tr (f3.le (by omega))) (x2.tr x3)
theorem j_partS (hK : 1 ≤ K ∧ K ≤ 1000) {i : Int} (hi : i = 0 ∨ i = 1) (ex : x = nd f p1 p2) (ey : y = nd f q1 q2) (hf : f < 100) (har : i < C 12 f) (h : BM C K x y σ (PR prog x y) M d) (hc : MS C K (if i = 0 then p1 else p2) (if i = 0 then q1 else q2) σ (PR prog x y) t1)
    (k : ∀ M2 : Mem, SS C K M2 → M2 0 27 = (d : Int) → M2 0 31 = 0 → fbM d M M2 → w_X4_judges_L11 Q n M2) : w_X4_goesToPart M i (fun M' => w_X4_judges_L11 Q (n + (t1 + 1)) M') := by
  have hd := BM_d h
  have h3 := h.2.2.1
  have h4 := h.2.2.2.1
  have h740 := h.1.1.2.1.2.1
  refine m_toPart hi ex ey hf har h (fun M2 b2 z20 z9 z18 z19 f2 x2 => ?_)
  rw [show n + (t1 + 1) = (n + 1) + t1 by omega]
  refine hc Q M2 (d + 1) (n + 1) b2 z20 (fun M3 s3 o3 a3 f3 => ?_)
  have q := f3 d (by omega) (by omega)
  have e18 := q.1.trans z18
  have e19 := q.2.1.trans z19
  exact jl_spent hK (by omega) hd.2 (q.2.2.trans z9) (by omega) a3 (by rw [e18]; omega) (by rw [e19]; omega) s3 (fun M4 s4 o4 a4 f4 => k M4 s4 o4 a4 ((f2.tr (f3.le (by omega))).tr f4))
theorem dj_one (ex : x = nd f p1 p2) (ey : y = nd f q1 q2) (hf : f < 100) (har : 0 < C 12 f) (hc : MJ C K p1 q1 σ (PR prog x y) r1 σ1 t1) (hu : σ.2.1 ≤ σ1.2.1) (hG : GJ C K x y σ1 prog r1 1 r σ' t) : DJ C K x y f f σ prog r σ' (t + t1) := by
  intro Q M d n h k
  refine ⟨fun z => absurd rfl z, fun _ => ?_⟩
  rw [show n + (t + t1) = (n + t) + t1 by omega]
  exact j_part (i := 0) (Or.inl rfl) ex ey hf har h (by rw [if_pos rfl, if_pos rfl]; exact hc) hu (fun M2 b2 z2 a2 f2 x2 => hG Q M2 d n b2 z2 a2 (fun M3 s3 o3 a3 f3 x3 => k M3 s3 o3 a3 (f2.tr f3) (x2.tr x3)))
theorem ds_one (ex : x = nd f p1 p2) (ey : y = nd f q1 q2) (hf : f < 100) (har : 0 < C 12 f) (hc : MJ C K p1 q1 σ (PR prog x y) r1 σ1 t1) (hu : σ.2.1 ≤ σ1.2.1) (hG : GS C K x y σ1 prog r1 1 t) : DS C K x y f f σ prog (t + t1) := by
  intro Q M d n h k
  refine ⟨fun z => absurd rfl z, fun _ => ?_⟩
  rw [show n + (t + t1) = (n + t) + t1 by omega]
  exact j_part (i := 0) (Or.inl rfl) ex ey hf har h (by rw [if_pos rfl, if_pos rfl]; exact hc) hu (fun M2 b2 z2 a2 f2 x2 => hG Q M2 d n b2 z2 a2 (fun M3 s3 o3 a3 f3 => k M3 s3 o3 a3 (f2.tr f3)))
theorem ds_first (hK : 1 ≤ K ∧ K ≤ 1000) (ex : x = nd f p1 p2) (ey : y = nd f q1 q2) (hf : f < 100) (har : 0 < C 12 f) (hc : MS C K p1 q1 σ (PR prog x y) t1) : DS C K x y f f σ prog (t1 + 1) := by
  intro Q M d n h k
  refine ⟨fun z => absurd rfl z, fun _ => ?_⟩
  exact j_partS hK (i := 0) (Or.inl rfl) ex ey hf har h (by rw [if_pos rfl, if_pos rfl]; exact hc) k
theorem gj_second (hI : InvC C) (ex : x = nd f p1 p2) (ey : y = nd f q1 q2) (hf : f < 100) (har : 1 < C 12 f) (hc : MJ C K p2 q2 σ (PR prog x y) r1 σ1 t1) (hu : σ.2.1 ≤ σ1.2.1) (hG : GJ C K x y σ1 prog r1 2 r σ' t) : GJ C K x y σ prog 1 1 r σ' (t + t1 + 1) := by
  intro Q M d n h hw h31 k
  have e : n + (t + t1 + 1) = ((n + t) + t1) + 1 := by omega
  rw [e]
  exact jl_on h.2.1 (BM_d h).2 hw (by omega) (j_goon hI ex hf h hw (Or.inl rfl) h31 (Or.inr rfl) (fun _ z => by omega) (fun _ _ => j_part (i := 1) (Or.inr rfl) ex ey hf har h (by rw [if_neg (by decide), if_neg (by decide)]; exact hc) hu (fun M2 b2 z2 a2 f2 x2 => hG Q M2 d n b2 z2 a2 (fun M3 s3 o3 a3 f3 x3 => k M3 s3 o3 a3 (f2.tr f3) (x2.tr x3)))) (fun z => absurd z (by decide)) (fun z => absurd z (by decide)))
theorem gs_two (hI : InvC C) (ex : x = nd f p1 p2) (ey : y = nd f q1 q2) (hf : f < 100) (har : 1 < C 12 f) (hc : MJ C K p2 q2 σ (PR prog x y) r1 σ1 t1) (hu : σ.2.1 ≤ σ1.2.1) (hG : GS C K x y σ1 prog r1 2 t) : GS C K x y σ prog 1 1 (t + t1 + 1) := by
  intro Q M d n h hw h31 k
  have e : n + (t + t1 + 1) = ((n + t) + t1) + 1 := by omega
  rw [e]
  exact jl_on h.2.1 (BM_d h).2 hw (by omega) (j_goon hI ex hf h hw (Or.inl rfl) h31 (Or.inr rfl) (fun _ z => by omega) (fun _ _ => j_part (i := 1) (Or.inr rfl) ex ey hf har h (by rw [if_neg (by decide), if_neg (by decide)]; exact hc) hu (fun M2 b2 z2 a2 f2 x2 => hG Q M2 d n b2 z2 a2 (fun M3 s3 o3 a3 f3 => k M3 s3 o3 a3 (f2.tr f3)))) (fun z => absurd z (by decide)) (fun z => absurd z (by decide)))
theorem gs_second (hI : InvC C) (hK : 1 ≤ K ∧ K ≤ 1000) (ex : x = nd f p1 p2) (ey : y = nd f q1 q2) (hf : f < 100) (har : 1 < C 12 f) (hc : MS C K p2 q2 σ (PR prog x y) t1) : GS C K x y σ prog 1 1 (t1 + 2) := by
  intro Q M d n h hw h31 k
  have e : n + (t1 + 2) = (n + (t1 + 1)) + 1 := by omega
  rw [e]
  exact jl_on h.2.1 (BM_d h).2 hw (by omega) (j_goon hI ex hf h hw (Or.inl rfl) h31 (Or.inr rfl) (fun _ z => by omega) (fun _ _ => j_partS hK (i := 1) (Or.inr rfl) ex ey hf har h (by rw [if_neg (by decide), if_neg (by decide)]; exact hc) k) (fun z => absurd z (by decide)) (fun z => absurd z (by decide)))
end H
