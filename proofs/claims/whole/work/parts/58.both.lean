/-! both judge a pair alike -/
def RES (C : Mem) (x y : Tr) (σ : SG) (r : Int) (σ' : SG) : Prop :=
  (r = 0 ∨ r = 1) ∧ (σ.2.1 ≤ σ'.2.1 ∧ σ'.2.1 ≤ 40) ∧ (∀ p q, σ'.1 p q ≠ σ.1 p q → mu C p + mu C q ≤ mu C x + mu C y) ∧ (∀ p q, 0 ≤ σ'.1 p q ∧ σ'.1 p q ≤ 2)
def OUT (C : Mem) (K : Int) (x y : Tr) (σ : SG) (prog : Tr → Tr → Prop) : Prop :=
  (∃ (r : Int) (σ' : SG) (t t' : Nat), RES C x y σ r σ' ∧ (t : Int) ≤ 4 * (σ'.2.2.1 - σ.2.2.1) ∧ CJ C x y σ prog r σ' t ∧ MJ C K x y σ prog r σ' t') ∨
  (∃ t t' : Nat, CS C x y σ prog t ∧ MS C K x y σ prog t')
def FIN (C : Mem) (K : Int) (x y : Tr) (σ : SG) (prog : Tr → Tr → Prop) (v w : Int) : Prop :=
  (∃ (r : Int) (σ' : SG) (t t' : Nat), RES C x y σ r σ' ∧ (t : Int) ≤ 4 * (σ'.2.2.1 - σ.2.2.1) + 2 ∧ FJ C x y σ prog v w r σ' t ∧ GJ C K x y σ prog v (w + 1) r σ' t') ∨
  (∃ t t' : Nat, FS C x y σ prog v w t ∧ GS C K x y σ prog v (w + 1) t')
section H
variable {C : Mem} {K : Int} {x y : Tr} {σ σ1 : SG} {prog : Tr → Tr → Prop} {r v w c : Int} {f g : Nat} {p1 p2 q1 q2 : Tr}
theorem wfT_sub (hI : InvC C) {p q : Tr} : ∀ (n : Nat) (i : Int), 0 ≤ i → i < n → i < C 1 8 → allF (fun g => (g = 100 → wfT C p) ∧ (g = 101 → wfT C q)) (vC C i) → wfT C (sub p q (vC C i)) := by
  intro n
  induction n with
  | zero => intro i i0 i1; omega
  | succ n ih =>
    intro i i0 i1 i8 h
    have hT := hI.2.2.1
    have h12 := hI.1.2.1
    have hfr := hT.fr i0 i8 h12
    rw [vC_eq hT i0 i8] at h ⊢
    rw [allF_nd] at h
    rw [sub_nd]
    by_cases e1 : (C 4 i).toNat = 100
    · rw [if_pos e1]
      exact h.1.1 e1
    · by_cases e2 : (C 4 i).toNat = 101
      · rw [if_neg e1, if_pos e2]
        exact h.1.2 e2
      · rw [if_neg e1, if_neg e2, wfT_nd]
        rcases hT.1 i i0 i8 with gg | ⟨g1, g2, g3, g4, g5⟩
        · omega
        · rw [Int.toNat_of_nonneg g1.1]
          refine ⟨⟨⟨g1.2, by omega⟩, fun z => ?_, fun z => ?_⟩, fun z => ?_, fun z => ?_⟩
          · rw [g2 z, vC_neg (by decide)]
            rfl
          · rw [g4 z, vC_neg (by decide)]
            rfl
          · have := g3 z
            exact ih _ this.1 (by omega) (by omega) h.2.1
          · have := g5 z
            exact ih _ this.1 (by omega) (by omega) h.2.2
theorem wfT_closed (hI : InvC C) {i : Int} (hi : 0 ≤ i ∧ i < C 1 8) (h : occ 100 (vC C i) = 0 ∧ occ 101 (vC C i) = 0) : wfT C (vC C i) := by
  have := wfT_sub hI (p := nl) (q := nl) (i.toNat + 1) i hi.1 (by omega) hi.2 (allF_of_occ _ (fun p hp => ⟨fun e => by rw [e] at hp; omega, fun e => by rw [e] at hp; omega⟩))
  rw [sub_closed nl nl _ h.1 h.2] at this
  exact this
theorem wfT_unf (hI : InvC C) (hw : wfT C (nd f p1 p2)) (hf : foldN C f) : wfT C (sub p1 p2 (dfn C f)) := by
  obtain ⟨hm, hok⟩ := dfn_ok hI hf
  rw [wfT_nd] at hw
  refine wfT_sub hI ((C 13 f).toNat + 1) _ hm.1 (by omega) hm.2 (allF_mono (fun g hg => ?_) _ hok)
  unfold okd at hg
  exact ⟨fun e => hw.2.1 (by omega), fun e => hw.2.2 (by omega)⟩
theorem mst_rng (h : ∀ p q, 0 ≤ σ.1 p q ∧ σ.1 p q ≤ 2) (hc : c = 1 ∨ c = 2) : ∀ p q, 0 ≤ mst σ.1 x y c p q ∧ mst σ.1 x y c p q ≤ 2 := by
  intro p q
  by_cases e : p = x ∧ q = y
  · rw [e.1, e.2, mst_at]
    omega
  · rw [mst_off e]
    exact h p q
theorem mst_mu {mm : Tr → Tr → Int} (h : ∀ p q, σ1.1 p q ≠ mm p q → mu C p + mu C q ≤ mu C x + mu C y) : ∀ p q, mst σ1.1 x y c p q ≠ mm p q → mu C p + mu C q ≤ mu C x + mu C y := by
  intro p q hne
  by_cases e : p = x ∧ q = y
  · rw [e.1, e.2]
    exact Nat.le_refl _
  · rw [mst_off e] at hne
    exact h p q hne
theorem fin_ok (hI : InvC C) (hK : 1 ≤ K ∧ K ≤ 1000) (ih : ∀ x' y' σ', mu C x' + mu C y' < mu C x + mu C y → wfT C x' → wfT C y' → (0 ≤ σ'.2.1 ∧ σ'.2.1 ≤ 40) → (∀ p q, 0 ≤ σ'.1 p q ∧ σ'.1 p q ≤ 2) → OUT C K x' y' σ' (PR prog x y))
    (ex : x = nd f p1 p2) (ey : y = nd f q1 q2) (hf : f < 100) (wx : wfT C x) (wy : wfT C y) (hw : w = 0 ∨ w = 1) (hv : v = 0 ∨ v = 1) (hal : v = 1 → C 12 f ≤ w + 1) (hm : σ.1 x y = 0) (hu : 0 ≤ σ.2.1 ∧ σ.2.1 ≤ 40) (hr : ∀ p q, 0 ≤ σ.1 p q ∧ σ.1 p q ≤ 2) : FIN C K x y σ prog v w := by
  have hw1 : w + 1 = 1 ∨ w + 1 = 2 := by omega
  rcases hv with e | e
  · subst e
    by_cases hfo : foldN C f
    · have m1 := mu_unf hI (a := p1) (b := p2) hfo
      have m2 := mu_unf hI (a := q1) (b := q2) hfo
      rw [← ex] at m1
      rw [← ey] at m2
      by_cases hle : σ.2.1 + 2 ≤ 40
      · rcases ih (sub p1 p2 (dfn C f)) (sub q1 q2 (dfn C f)) (σ.1, σ.2.1 + 2, σ.2.2.1, σ.2.2.2.1, σ.2.2.2.2) (by omega) (wfT_unf hI (by rw [← ex]; exact wx) hfo) (wfT_unf hI (by rw [← ey]; exact wy) hfo) ⟨by show 0 ≤ σ.2.1 + 2; omega, hle⟩ hr with ⟨r, σ1, t, t', ⟨r1, r2, r3, r4⟩, ht, hC, hM⟩ | ⟨t, t', hC, hM⟩
        · have hm1 : σ1.1 x y = 0 := by
            by_cases z : σ1.1 x y = σ.1 x y
            · rw [z, hm]
            · have := r3 x y z
              omega
          have r2' : σ.2.1 + 2 ≤ σ1.2.1 ∧ σ1.2.1 ≤ 40 := r2
          have ht' : (t : Int) ≤ 4 * (σ1.2.2.1 - σ.2.2.1) := ht
          refine Or.inl ⟨r, (mst σ1.1 x y (r + 1), σ1.2.1, σ1.2.2.1, σ1.2.2.2.1, σ1.2.2.2.2), t + 2, t' + 2, ⟨r1, ⟨by show σ.2.1 ≤ σ1.2.1; omega, r2'.2⟩, mst_mu (fun p q z => ?_), mst_rng r4 (by omega)⟩, by show ((t + 2 : Nat) : Int) ≤ 4 * (σ1.2.2.1 - σ.2.2.1) + 2; omega, fj_unf hI ex ey hw hfo hle hC r2'.1 ht' hm1 r1, gj_unf hI hK ex ey hw1 hfo hle hM r2'.1 r1⟩
          have := r3 p q z
          omega
        · exact Or.inr ⟨t + 1, t' + 2, fs_unf hI ex ey hw hfo (fun _ => hC), gs_unf1 hI hK ex ey hw1 hfo hle hM⟩
      · exact Or.inr ⟨0 + 1, 1, fs_unf hI ex ey hw hfo (fun z => absurd z hle), gs_unf0 hI hK ex ey hw1 hfo (by omega)⟩
    · exact Or.inl ⟨0, (mst σ.1 x y 1, σ.2.1, σ.2.2.1, σ.2.2.2.1, σ.2.2.2.2), 1, 1, ⟨Or.inl rfl, ⟨Int.le_refl _, hu.2⟩, mst_mu (fun p q z => absurd rfl z), mst_rng hr (Or.inl rfl)⟩, by show ((1 : Nat) : Int) ≤ 4 * (σ.2.2.1 - σ.2.2.1) + 2; omega, fj_no hI ex ey hf hw hfo hm, gj_no hI hK ex hf hw1 hfo⟩
  · subst e
    exact Or.inl ⟨1, (mst σ.1 x y 2, σ.2.1, σ.2.2.1, σ.2.2.2.1, σ.2.2.2.2), 1, 1, ⟨Or.inr rfl, ⟨Int.le_refl _, hu.2⟩, mst_mu (fun p q z => absurd rfl z), mst_rng hr (Or.inr rfl)⟩, by show ((1 : Nat) : Int) ≤ 4 * (σ.2.2.1 - σ.2.2.1) + 2; omega, fj_alike hI ex ey hf hw (hal rfl) hm, gj_alike hI hK ex hf hw1 (hal rfl)⟩
theorem both_names (hI : InvC C) (hK : 1 ≤ K ∧ K ≤ 1000) (ih : ∀ x' y' σ', mu C x' + mu C y' < mu C x + mu C y → wfT C x' → wfT C y' → (0 ≤ σ'.2.1 ∧ σ'.2.1 ≤ 40) → (∀ p q, 0 ≤ σ'.1 p q ∧ σ'.1 p q ≤ 2) → OUT C K x' y' σ' (PR prog x y))
    (ex : x = nd f p1 p2) (ey : y = nd g q1 q2) (hf : f < 100) (hg : g < 100) (hf2 : (f : Int) < C 2 7) (hg2 : (g : Int) < C 2 7) (hne : f ≠ g) (hxy : x ≠ y) (hp : ¬ prog x y) (wx : wfT C x) (wy : wfT C y) (hm : σ.1 x y = 0) (hu : 0 ≤ σ.2.1 ∧ σ.2.1 ≤ 40) (hr : ∀ p q, 0 ≤ σ.1 p q ∧ σ.1 p q ≤ 2) : OUT C K x y σ prog := by
  obtain ⟨hhf, nf⟩ := hgt_fold hI hf2 hf
  obtain ⟨hhg, ng⟩ := hgt_fold hI hg2 hg
  by_cases c0 : C 15 f = 0 ∧ C 15 g = 0
  · refine Or.inl ⟨0, (mst σ.1 x y 1, σ.2.1, σ.2.2.1 + 1, (f : Int), (g : Int)), 1, 0 + 1, ⟨Or.inl rfl, ⟨Int.le_refl _, hu.2⟩, mst_mu (fun p q z => absurd rfl z), mst_rng hr (Or.inl rfl)⟩, by show ((1 : Nat) : Int) ≤ 4 * (σ.2.2.1 + 1 - σ.2.2.1); omega, cj_new hI hxy hm hp ?_, mj_new hK ex ey hf hg hxy hm hp ?_⟩
    · exact bj_clash hI ex ey hf hg hne hm c0.1 c0.2
    · exact dj_clash hI hK ex ey hf hg hne c0.1 c0.2
  · have hh : 0 < C 15 f ∨ 0 < C 15 g := by omega
    have pick : ∃ (ax ay more : Int) (x' y' : Tr), hgtm (C 15 f) (C 15 g) ax ay more ∧ (1 ≤ more ∧ more ≤ 2) ∧ (ax = 1 → ∃ f p q, x = nd f p q ∧ foldN C f ∧ x' = sub p q (dfn C f)) ∧ (ax = 0 → x' = x) ∧ (ay = 1 → ∃ f p q, y = nd f p q ∧ foldN C f ∧ y' = sub p q (dfn C f)) ∧ (ay = 0 → y' = y) ∧ mu C x' + mu C y' < mu C x + mu C y ∧ wfT C x' ∧ wfT C y' := by
      have mx : foldN C f → mu C (sub p1 p2 (dfn C f)) < mu C x := fun h => by rw [ex]; exact mu_unf hI h
      have my : foldN C g → mu C (sub q1 q2 (dfn C g)) < mu C y := fun h => by rw [ey]; exact mu_unf hI h
      have ux : foldN C f → wfT C (sub p1 p2 (dfn C f)) := fun h => wfT_unf hI (by rw [← ex]; exact wx) h
      have uy : foldN C g → wfT C (sub q1 q2 (dfn C g)) := fun h => wfT_unf hI (by rw [← ey]; exact wy) h
      by_cases a : C 15 f = C 15 g
      · have ff := hhf.mpr (by omega)
        have fg := hhg.mpr (by omega)
        have := mx ff
        have := my fg
        exact ⟨1, 1, 2, _, _, Or.inl ⟨a, rfl, rfl, rfl⟩, by omega, fun _ => ⟨f, p1, p2, ex, ff, rfl⟩, fun z => absurd z (by decide), fun _ => ⟨g, q1, q2, ey, fg, rfl⟩, fun z => absurd z (by decide), by omega, ux ff, uy fg⟩
      · by_cases b : C 15 g < C 15 f
        · have ff := hhf.mpr (by omega)
          have := mx ff
          exact ⟨1, 0, 1, _, y, Or.inr (Or.inl ⟨b, rfl, rfl, rfl⟩), by omega, fun _ => ⟨f, p1, p2, ex, ff, rfl⟩, fun z => absurd z (by decide), fun z => absurd z (by decide), fun _ => rfl, by omega, ux ff, wy⟩
        · have fg := hhg.mpr (by omega)
          have := my fg
          exact ⟨0, 1, 1, x, _, Or.inr (Or.inr ⟨by omega, rfl, rfl, rfl⟩), by omega, fun z => absurd z (by decide), fun _ => rfl, fun _ => ⟨g, q1, q2, ey, fg, rfl⟩, fun z => absurd z (by decide), by omega, wx, uy fg⟩
    obtain ⟨ax, ay, more, x', y', hmo, hmo2, hx1, hx0, hy1, hy0, hmu, wx', wy'⟩ := pick
    by_cases hle : σ.2.1 + more ≤ 40
    · rcases ih x' y' (σ.1, σ.2.1 + more, σ.2.2.1 + 1, σ.2.2.2.1, σ.2.2.2.2) hmu wx' wy' ⟨by show 0 ≤ σ.2.1 + more; omega, hle⟩ hr with ⟨r, σ1, t, t', ⟨r1, r2, r3, r4⟩, ht, hC, hM⟩ | ⟨t, t', hC, hM⟩
      · have hm1 : σ1.1 x y = 0 := by
          by_cases z : σ1.1 x y = σ.1 x y
          · rw [z, hm]
          · have := r3 x y z
            omega
        have r2' : σ.2.1 + more ≤ σ1.2.1 ∧ σ1.2.1 ≤ 40 := r2
        have ht' : (t : Int) ≤ 4 * (σ1.2.2.1 - (σ.2.2.1 + 1)) := ht
        refine Or.inl ⟨r, (mst σ1.1 x y (r + 1), σ1.2.1, σ1.2.2.1, σ1.2.2.2.1, σ1.2.2.2.2), t + 2, t' + 1 + 1, ⟨r1, ⟨by show σ.2.1 ≤ σ1.2.1; omega, r2'.2⟩, mst_mu (fun p q z => ?_), mst_rng r4 (by omega)⟩, by show ((t + 2 : Nat) : Int) ≤ 4 * (σ1.2.2.1 - σ.2.2.1); omega, cj_new hI hxy hm hp ?_, mj_new hK ex ey hf hg hxy hm hp ?_⟩
        · have := r3 p q z
          omega
        · exact bj_names hI ex ey hf hg hne hh hmo hx1 hx0 hy1 hy0 hle hC r2'.1 ht' hm1 r1
        · exact dj_names hI hK ex ey hf hg hne hh hmo hx1 hx0 hy1 hy0 hle hM r2'.1 r1
      · refine Or.inr ⟨t + 1, t' + 1 + 1, cs_new hI hxy hm hp ?_, ms_new hK ex ey hf hg hxy hm hp ?_⟩
        · exact bs_names hI ex ey hf hg hne hh hmo hx1 hx0 hy1 hy0 (fun _ => hC)
        · exact ds_names1 hI hK ex ey hf hg hne hh hmo hx1 hx0 hy1 hy0 hle hM
    · refine Or.inr ⟨0 + 1, 0 + 1, cs_new hI hxy hm hp ?_, ms_new hK ex ey hf hg hxy hm hp ?_⟩
      · exact bs_names hI ex ey hf hg hne hh hmo hx1 hx0 hy1 hy0 (fun z => absurd z hle)
      · exact ds_names0 hI hK ex ey hf hg hne hh hmo hx1 hx0 hy1 hy0 (by show 40 < σ.2.1 + more; omega)
theorem both_one (hI : InvC C) (hK : 1 ≤ K ∧ K ≤ 1000) (ih : ∀ x' y' σ', mu C x' + mu C y' < mu C x + mu C y → wfT C x' → wfT C y' → (0 ≤ σ'.2.1 ∧ σ'.2.1 ≤ 40) → (∀ p q, 0 ≤ σ'.1 p q ∧ σ'.1 p q ≤ 2) → OUT C K x' y' σ' (PR prog x y))
    (ex : x = nd f p1 p2) (ey : y = nd f q1 q2) (hf : f < 100) (hxy : x ≠ y) (hp : ¬ prog x y) (wx : wfT C x) (wy : wfT C y) (hm : σ.1 x y = 0) (hu : 0 ≤ σ.2.1 ∧ σ.2.1 ≤ 40) (hr : ∀ p q, 0 ≤ σ.1 p q ∧ σ.1 p q ≤ 2) : OUT C K x y σ prog := by
  have wx' := wx
  have wy' := wy
  rw [ex, wfT_nd] at wx'
  rw [ey, wfT_nd] at wy'
  have har : 0 < C 12 f := by
    by_cases c : C 12 f < 1
    · exact absurd (by rw [ex, ey, wx'.1.2.1 c, wx'.1.2.2 (by omega), wy'.1.2.1 c, wy'.1.2.2 (by omega)]) hxy
    · omega
  have mp := mu_part C (a := p1) (b := p2) hf
  have mq := mu_part C (a := q1) (b := q2) hf
  rw [← ex] at mp
  rw [← ey] at mq
  rcases ih p1 q1 (σ.1, σ.2.1, σ.2.2.1 + 1, σ.2.2.2.1, σ.2.2.2.2) (by omega) (wx'.2.1 har) (wy'.2.1 har) hu hr with ⟨r1, σ1, t1, t1', ⟨a1, a2, a3, a4⟩, ht1, hC1, hM1⟩ | ⟨t, t', hC, hM⟩
  · have hm1 : σ1.1 x y = 0 := by
      by_cases z : σ1.1 x y = σ.1 x y
      · rw [z, hm]
      · have := a3 x y z
        omega
    have a2' : σ.2.1 ≤ σ1.2.1 ∧ σ1.2.1 ≤ 40 := a2
    have ht1' : (t1 : Int) ≤ 4 * (σ1.2.2.1 - (σ.2.2.1 + 1)) := ht1
    by_cases hs : r1 = 1 ∧ 1 < C 12 f
    · rw [hs.1] at hC1 hM1
      rcases ih p2 q2 σ1 (by omega) (wx'.2.2 hs.2) (wy'.2.2 hs.2) (by omega) a4 with ⟨r2, σ2, t2, t2', ⟨b1, b2, b3, b4⟩, ht2, hC2, hM2⟩ | ⟨t, t', hC, hM⟩
      · have hm2 : σ2.1 x y = 0 := by
          by_cases z : σ2.1 x y = σ1.1 x y
          · rw [z, hm1]
          · have := b3 x y z
            omega
        have h12 := (hI.1.2.2 f (by omega) wx'.1.1.1).1
        rcases fin_ok hI hK ih ex ey hf wx wy (σ := σ2) (w := 1) (v := r2) (Or.inr rfl) b1 (fun _ => by omega) hm2 (by omega) b4 with ⟨r, σ', t, t', ⟨c1, c2, c3, c4⟩, ht, hF, hG⟩ | ⟨t, t', hF, hG⟩
        · refine Or.inl ⟨r, σ', t1 + (t2 + t + 1) + 1, (t' + t2' + 1) + t1' + 1, ⟨c1, by omega, fun p q z => ?_, c4⟩, by omega, cj_new hI hxy hm hp (bj_two hI ex ey hf hs.2 hC1 a2'.1 ht1' hC2 b2.1 ht2 hF), mj_new hK ex ey hf hf hxy hm hp (dj_one ex ey hf har hM1 a2'.1 (gj_second hI ex ey hf hs.2 hM2 b2.1 hG))⟩
          by_cases z1 : σ'.1 p q = σ2.1 p q
          · by_cases z2 : σ2.1 p q = σ1.1 p q
            · have := a3 p q (fun z3 => z (by rw [z1, z2, z3]))
              omega
            · have := b3 p q z2
              omega
          · exact c3 p q z1
        · exact Or.inr ⟨t1 + (t2 + t + 1) + 1, (t' + t2' + 1) + t1' + 1, cs_new hI hxy hm hp (bs_two hI ex ey hf hs.2 hC1 a2'.1 ht1' hC2 b2.1 ht2 hF), ms_new hK ex ey hf hf hxy hm hp (ds_one ex ey hf har hM1 a2'.1 (gs_two hI ex ey hf hs.2 hM2 b2.1 hG))⟩
      · exact Or.inr ⟨t1 + (t + 1) + 1, (t' + 2) + t1' + 1, cs_new hI hxy hm hp (bs_second hI ex ey hf hs.2 hC1 a2'.1 ht1' hC), ms_new hK ex ey hf hf hxy hm hp (ds_one ex ey hf har hM1 a2'.1 (gs_second hI hK ex ey hf hs.2 hM))⟩
    · rcases fin_ok hI hK ih ex ey hf wx wy (σ := σ1) (w := 0) (v := r1) (Or.inl rfl) a1 (fun z => by omega) hm1 (by omega) a4 with ⟨r, σ', t, t', ⟨c1, c2, c3, c4⟩, ht, hF, hG⟩ | ⟨t, t', hF, hG⟩
      · refine Or.inl ⟨r, σ', t1 + t + 1, t' + t1' + 1, ⟨c1, by omega, fun p q z => ?_, c4⟩, by omega, cj_new hI hxy hm hp (bj_one hI ex ey hf har hC1 a2'.1 ht1' hF), mj_new hK ex ey hf hf hxy hm hp (dj_one ex ey hf har hM1 a2'.1 hG)⟩
        by_cases z1 : σ'.1 p q = σ1.1 p q
        · have := a3 p q (fun z3 => z (by rw [z1, z3]))
          omega
        · exact c3 p q z1
      · exact Or.inr ⟨t1 + t + 1, t' + t1' + 1, cs_new hI hxy hm hp (bs_one hI ex ey hf har hC1 a2'.1 ht1' hF), ms_new hK ex ey hf hf hxy hm hp (ds_one ex ey hf har hM1 a2'.1 hG)⟩
  · exact Or.inr ⟨t + 1, t' + 1 + 1, cs_new hI hxy hm hp (bs_first hI ex ey hf har hC), ms_new hK ex ey hf hf hxy hm hp (ds_first hK ex ey hf har hM)⟩
theorem both (hI : InvC C) (hK : 1 ≤ K ∧ K ≤ 1000) : ∀ (N : Nat) (x y : Tr) (σ : SG) (prog : Tr → Tr → Prop), mu C x + mu C y < N → wfT C x → wfT C y → (∀ p q, prog p q → mu C x + mu C y < mu C p + mu C q) → (0 ≤ σ.2.1 ∧ σ.2.1 ≤ 40) → (∀ p q, 0 ≤ σ.1 p q ∧ σ.1 p q ≤ 2) → OUT C K x y σ prog := by
  intro N
  induction N with
  | zero => intro x y σ prog h; omega
  | succ N ihN =>
    intro x y σ prog hN wx wy hpr hu hr
    have ih : ∀ x' y' σ', mu C x' + mu C y' < mu C x + mu C y → wfT C x' → wfT C y' → (0 ≤ σ'.2.1 ∧ σ'.2.1 ≤ 40) → (∀ p q, 0 ≤ σ'.1 p q ∧ σ'.1 p q ≤ 2) → OUT C K x' y' σ' (PR prog x y) := by
      intro x' y' σ' hlt wx' wy' hu' hr'
      refine ihN x' y' σ' (PR prog x y) (by omega) wx' wy' (fun p q hpq => ?_) hu' hr'
      rcases hpq with hpq | ⟨e1, e2⟩
      · have := hpr p q hpq
        omega
      · rw [e1, e2]
        exact hlt
    by_cases hxy : x = y
    · subst hxy
      exact Or.inl ⟨1, σ, 0, 1, ⟨Or.inr rfl, ⟨Int.le_refl _, hu.2⟩, fun p q z => absurd rfl z, hr⟩, by omega, cj_same hI, mj_same hK⟩
    · by_cases hm : σ.1 x y = 0
      · have hp : ¬ prog x y := fun z => by
          have := hpr x y z
          omega
        obtain ⟨f, p1, p2, ex⟩ := wfT_form wx
        obtain ⟨g, q1, q2, ey⟩ := wfT_form wy
        have wx' := wx
        have wy' := wy
        rw [ex, wfT_nd] at wx'
        rw [ey, wfT_nd] at wy'
        by_cases hfg : f = g
        · subst hfg
          exact both_one hI hK ih ex ey wx'.1.1.2 hxy hp wx wy hm hu hr
        · exact both_names hI hK ih ex ey wx'.1.1.2 wy'.1.1.2 wx'.1.1.1 wy'.1.1.1 hfg hxy hp wx wy hm hu hr
      · have := hr x y
        exact Or.inl ⟨σ.1 x y - 1, σ, 0, 1, ⟨by omega, ⟨Int.le_refl _, hu.2⟩, fun p q z => absurd rfl z, hr⟩, by omega, cj_known hxy hm, mj_known hK hxy hm⟩
end H
