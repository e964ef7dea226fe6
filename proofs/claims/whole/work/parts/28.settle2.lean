/-! the class: a folded name is settled; all names from one on -/
theorem setN_rf {M : Mem} {n : Int} : setN M M n := ⟨sb.rf, fun _ _ _ => rfl⟩
theorem setN_up {M M1 : Mem} {n v : Int} {c : Nat} (hc : c = 15 ∨ c = 16 ∨ (18 ≤ c ∧ c ≤ 21)) (h : setN M M1 n) : setN M (up M1 c n v) n := by
  refine ⟨fun d a b e => ?_, fun d i hi => ?_⟩
  · rw [up_off (by omega)]
    exact h.1 d a b e
  · by_cases e : d = c
    · subst e
      rw [up_at]
      show (if i = n then v else M1 d i) = M d i
      rw [if_neg hi]
      exact h.2 d i hi
    · rw [up_off e]
      exact h.2 d i hi
section H
variable {M : Mem} {Q : Mem → Prop} {n : Int}
theorem h_folded (hc : Core M) (hn : 0 ≤ n ∧ n < M 2 7) (hx : 0 ≤ M 13 n ∧ M 13 n < M 1 8) (ht : allF (okd n (M 12 n)) (vC M (M 13 n))) (hNC : NC M n)
    (q : ∀ M', setN M M' n → M' 15 n = 1 + mxh (M 15) (vC M (M 13 n)) ∧ M' 16 n = hdw (M 16) (vC M (M 13 n)) ∧ M' 18 n = cnw (cM M) 0 (vC M (M 13 n)) ∧ M' 19 n = cnw (cM M) 1 (vC M (M 13 n)) ∧ M' 20 n = cnw (cM M) 2 (vC M (M 13 n)) ∧ M' 21 n = sadd 1 (cnw (cM M) 3 (vC M (M 13 n))) → Q M') : w_X1_settleFolded M n Q := by
  obtain ⟨hB, ⟨t0, t9, th⟩, hT, hTC⟩ := id hc
  have h12 := hB.2.1
  have har : ∀ n, 0 ≤ n → n < M 2 7 → 0 ≤ M 12 n ∧ M 12 n ≤ 2 := fun n a b => (hB.2.2 n a b).1
  have hfr : allF (fun f => (f : Int) < M 2 7 ∨ 100 ≤ f) (vC M (M 13 n)) := allF_mono (fun f hf => by unfold okd at hf; omega) _ ht
  have hwk : allF (fun f => f < 100 → wok M f) (vC M (M 13 n)) := allF_mono (fun f hf (hl : f < 100) => by
    unfold okd at hf
    have := (hNC f (by omega) (by omega)).2.2.1
    unfold wok
    omega) _ ht
  have hck : allF (fun f => f < 100 → cok M f) (vC M (M 13 n)) := allF_mono (fun f hf (hl : f < 100) => by
    unfold okd at hf
    have := (hNC f (by omega) (by omega)).2.2.2
    exact this) _ ht
  have hdp := (hTC (M 13 n) hx.1 hx.2)
  have hd4 : dep (vC M (M 13 n)) ≤ 4 := by
    have := hdp.1
    have := hdp.2.1
    omega
  have hmx : 0 ≤ mxh (M 15) (vC M (M 13 n)) ∧ mxh (M 15) (vC M (M 13 n)) ≤ n := by
    obtain ⟨m0, m1, m2⟩ := mxh_facts (M 15) (vC M (M 13 n))
    refine ⟨m0, ?_⟩
    rcases m2 with e | ⟨f, f1, f2, f3⟩
    · omega
    · have h6 := occ_pos_all _ ht f2
      unfold okd at h6
      have := (hNC f (by omega) (by omega)).2.1
      omega
  have scnt : ∀ (k : Nat), k < 4 → sat (cnw (cM M) k (vC M (M 13 n))) := fun k hk => sat_cnw _ (allF_mono (fun f hf h1 => ⟨(hf h1).at 0 (by decide), (hf h1).at 1 (by decide), (hf h1).at k hk⟩) _ hck)
  have step : ∀ (Mj : Mem) (k : Nat) (Q2 : Int → Mem → Prop), k < 4 → setN M Mj n → Q2 (cnw (cM M) k (vC M (M 13 n))) Mj → w_X1_countInWhole 6 Mj (M 13 n) (k : Int) 1 Q2 := by
    intro Mj k Q2 hk hs q2
    obtain ⟨jB, ⟨j0, j9, jh⟩, jT, jTC⟩ := sb_Core hs.1 hc
    have ev : vC Mj (M 13 n) = vC M (M 13 n) := sb_vC hs.1 _
    have e1 : Mj 1 = M 1 := hs.1 1 (by decide) (by decide) (by decide)
    refine h_cnt hk jT (by omega) (by omega) jB.2.1 (fun n a b => (jB.2.2 n a b).1) 6 _ _ _ (by decide) hx.1 (by rw [e1]; omega) (by rw [ev]; omega) (by rw [ev]; omega) ?_ ?_
    · rw [ev]
      exact allF_mono (fun f hf (hl : f < 100) => by
        have h1 := hf.2 hl
        have ne : (f : Int) ≠ n := by
          have := hf.1
          unfold okd at this
          omega
        unfold cok
        rw [hs.2 18 f ne, hs.2 19 f ne, hs.2 20 f ne, hs.2 21 f ne]
        exact h1) _ (show allF (fun f => okd n (M 12 n) f ∧ (f < 100 → cok M f)) (vC M (M 13 n)) from allF_of_occ _ (fun p hp => ⟨occ_pos_all _ ht hp, occ_pos_all _ hck hp⟩))
    · rw [ev, cnw_ext (c' := cM M) _ (allF_mono (fun f hf (hl : f < 100) => by
        have ne : (f : Int) ≠ n := by
          unfold okd at hf
          omega
        exact ⟨hs.2 18 f ne, hs.2 19 f ne, fun _ => hs.2 (18 + k) f ne⟩) _ ht)]
      exact q2
  refine h_has1 hn ⟨fun _ => ⟨by omega, h_ght (by omega) ⟨by omega, h12⟩ hx hdp.2.2.2.1 hfr ⟨by unfold rg; omega, by omega, ?_⟩⟩, fun z => absurd z (by decide)⟩
  refine h_fow (N := M 1 8) (show TB (up M 15 n _) (M 1 8) from hT) (by show M 1 9 ≤ M 1 8; omega) (by show M 1 9 ≤ 370; omega) h12 har (by show 0 ≤ M 13 n ∧ M 13 n < M 1 9; omega) hd4 hwk ⟨by omega, 5, ?_⟩
  show w_X1_settleFolded_L42 Q 5 (up (up M 15 n (1 + mxh (M 15) (vC M (M 13 n)))) 16 n (hdw (M 16) (vC M (M 13 n)))) n (M 13 n) 0
  have s2 : setN M (up (up M 15 n (1 + mxh (M 15) (vC M (M 13 n)))) 16 n (hdw (M 16) (vC M (M 13 n)))) n := setN_up (by omega) (setN_up (by omega) setN_rf)
  rw [w_X1_settleFolded_L42]
  refine ⟨fun z => by omega, fun _ => ⟨by decide, step _ 0 _ (by decide) s2 ⟨by omega, rgk _ (by decide), ?_⟩⟩⟩
  have s3 : setN M (up (up (up M 15 n (1 + mxh (M 15) (vC M (M 13 n)))) 16 n (hdw (M 16) (vC M (M 13 n)))) 18 n (cnw (cM M) 0 (vC M (M 13 n)))) n := setN_up (by omega) s2
  rw [w_X1_settleFolded_L42]
  refine ⟨fun z => by omega, fun _ => ⟨by decide, step _ 1 _ (by decide) s3 ⟨by omega, rgk _ (by decide), ?_⟩⟩⟩
  have s4 := setN_up (v := cnw (cM M) 1 (vC M (M 13 n))) (c := 19) (by omega) s3
  rw [w_X1_settleFolded_L42]
  refine ⟨fun z => by omega, fun _ => ⟨by decide, step _ 2 _ (by decide) s4 ⟨by omega, rgk _ (by decide), ?_⟩⟩⟩
  have s5 := setN_up (v := cnw (cM M) 2 (vC M (M 13 n))) (c := 20) (by omega) s4
  rw [w_X1_settleFolded_L42]
  refine ⟨fun z => by omega, fun _ => ⟨by decide, step _ 3 _ (by decide) s5 ⟨by omega, rgk _ (by decide), ?_⟩⟩⟩
  have s6 := setN_up (v := cnw (cM M) 3 (vC M (M 13 n))) (c := 21) (by omega) s5
  rw [w_X1_settleFolded_L42]
  refine ⟨fun _ => ⟨by decide, by decide, by omega, ?_⟩, fun z => absurd (by decide) z⟩
  refine h_sum ⟨by decide, by decide⟩ ?_ ⟨by omega, ?_⟩
  · show sat (up _ 21 n _ 21 n)
    rw [up_at]
    simp only [if_true]
    exact scnt 3 (by decide)
  · apply q
    · exact setN_up (by decide) s6
    · simp [up]
theorem h_settleL : ∀ (k : Nat) (m : Int) (M : Mem), Core M → 0 ≤ m → m ≤ M 2 7 → M 2 7 - m < k → NC M m → (∀ M', sb M M' → NC M' (M 2 7) → Q M') → w_X1_settleFrom_L2 Q k M m := by
  intro k
  induction k with
  | zero => intro m M hc h0 h1 h2; omega
  | succ k ih =>
    intro m M hc h0 h1 h2 hNC q
    obtain ⟨hB, ⟨t0, t9, th⟩, hT, hTC⟩ := id hc
    have h12 := hB.2.1
    rw [w_X1_settleFrom_L2]
    refine ⟨fun h => q M sb.rf (by rw [show M 2 7 = m by omega]; exact hNC), fun h => ?_⟩
    have hm : 0 ≤ m ∧ m < M 2 7 := by omega
    have har : ∀ n, 0 ≤ n → n < M 2 7 → 0 ≤ M 12 n ∧ M 12 n ≤ 2 := fun n a b => (hB.2.2 n a b).1
    have go : ∀ M', setN M M' m → (ncache M' m ∧ nrange M' m) → rg (m + 1) ∧ w_X1_settleFrom_L2 Q k M' (m + 1) := fun M' hs hh => by
      have e2 : M' 2 = M 2 := hs.1 2 (by decide) (by decide) (by decide)
      refine ⟨by unfold rg; omega, ih (m + 1) M' (sb_Core hs.1 hc) (by omega) (by rw [e2]; omega) (by rw [e2]; omega) ?_ ?_⟩
      · intro n n0 n1
        by_cases e : n = m
        · rw [e]
          exact hh
        · exact ncache_keep hs hB ⟨n0, by omega⟩ (by omega) (hNC n n0 (by omega))
      · intro M2 h3 h4
        rw [e2] at h4
        exact q M2 (hs.1.tr h3) h4
    refine h_fold h12 hm (fun nf => ⟨fun _ => h_plain h12 hm (fun M' hs hv => go M' hs ?_), fun z => absurd rfl z⟩) (fun hf => ⟨fun z => absurd z (by decide), fun _ => ?_⟩)
    · have e12 : M' 12 = M 12 := hs.1 12 (by decide) (by decide) (by decide)
      have e13 : M' 13 = M 13 := hs.1 13 (by decide) (by decide) (by decide)
      have e14 : M' 14 = M 14 := hs.1 14 (by decide) (by decide) (by decide)
      obtain ⟨v1, v2, v3, v4, v5, v6⟩ := hv
      have nf' : ¬ fold M' m := by
        unfold fold
        rw [e13, e14]
        exact nf
      refine ⟨⟨fun _ => ?_, fun z => absurd z nf'⟩, ?_⟩
      · rw [e12]
        exact ⟨v1, v2, v3, v4, v5, v6⟩
      · unfold nrange MOST
        rw [v1, v2, v3, v4, v5, v6]
        refine ⟨by omega, by omega, ?_, ?_, by decide, by decide⟩
        · split <;> decide
        · split <;> decide
    · have hdf : 0 ≤ M 13 m ∧ M 13 m < M 1 8 ∧ allF (okd m (M 12 m)) (vC M (M 13 m)) := by
        rcases (hB.2.2 m hm.1 hm.2).2.2 with z | z
        · exact absurd z hf.1
        · exact z
      refine h_folded hc hm ⟨hdf.1, hdf.2.1⟩ hdf.2.2 hNC (fun M' hs hv => go M' hs ?_)
      have e12 : M' 12 = M 12 := hs.1 12 (by decide) (by decide) (by decide)
      have e13 : M' 13 = M 13 := hs.1 13 (by decide) (by decide) (by decide)
      have e14 : M' 14 = M 14 := hs.1 14 (by decide) (by decide) (by decide)
      obtain ⟨v1, v2, v3, v4, v5, v6⟩ := hv
      have f' : fold M' m := by
        unfold fold
        rw [e13, e14]
        exact hf
      have x1 : ∀ c, allF (fun f => f < 100 → M' c f = M c f) (vC M (M 13 m)) := fun c => allF_mono (fun f hf (hl : f < 100) => hs.2 c f (by unfold okd at hf; omega)) _ hdf.2.2
      have x2 : ∀ c3, allF (fun f => f < 100 → M' 18 f = M 18 f ∧ M' 19 f = M 19 f ∧ (2 ≤ c3 → M' (18 + c3) f = M (18 + c3) f)) (vC M (M 13 m)) := fun c3 => allF_mono (fun f hf (hl : f < 100) => ⟨hs.2 18 f (by unfold okd at hf; omega), hs.2 19 f (by unfold okd at hf; omega), fun _ => hs.2 _ f (by unfold okd at hf; omega)⟩) _ hdf.2.2
      have hck : allF (fun f => f < 100 → cok M f) (vC M (M 13 m)) := allF_mono (fun f hf (hl : f < 100) => by
        unfold okd at hf
        exact (hNC f (by omega) (by omega)).2.2.2) _ hdf.2.2
      have scnt : ∀ (k : Nat), k < 4 → sat (cnw (cM M) k (vC M (M 13 m))) := fun k hk => sat_cnw _ (allF_mono (fun f hf h1 => ⟨(hf h1).at 0 (by decide), (hf h1).at 1 (by decide), (hf h1).at k hk⟩) _ hck)
      refine ⟨⟨fun z => absurd f' z, fun _ => ?_⟩, ?_⟩
      · rw [e13, sb_vC hs.1, mxh_ext _ (x1 15), hdw_ext _ (x1 16), cnw_ext (c' := cM M) (k := 0) _ (x2 0), cnw_ext (c' := cM M) (k := 1) _ (x2 1), cnw_ext (c' := cM M) (k := 2) _ (x2 2), cnw_ext (c' := cM M) (k := 3) _ (x2 3)]
        exact ⟨v1, v2, v3, v4, v5, v6⟩
      · have hmx : 0 ≤ mxh (M 15) (vC M (M 13 m)) ∧ mxh (M 15) (vC M (M 13 m)) ≤ m := by
          obtain ⟨m0, m1, m2⟩ := mxh_facts (M 15) (vC M (M 13 m))
          refine ⟨m0, ?_⟩
          rcases m2 with e | ⟨f, f1, f2, f3⟩
          · omega
          · have h6 := occ_pos_all _ hdf.2.2 f2
            unfold okd at h6
            have := (hNC f (by omega) (by omega)).2.1
            omega
        have hw := hdw_rng (w := M 16) hT (Int.le_of_lt hm.2) h12 har (fun f f0 f1 => (hNC f f0 f1).2.2.1) ((M 13 m).toNat + 1) (M 13 m) hdf.1 hdf.2.1 (by omega) hdf.2.2
        have s1 : sat (sadd 1 (cnw (cM M) 3 (vC M (M 13 m)))) := sat_sadd ⟨by decide, by decide⟩ (scnt 3 (by decide))
        unfold nrange
        rw [v1, v2, v3, v4, v5, v6, e12]
        refine ⟨by omega, by omega, scnt 0 (by decide), scnt 1 (by decide), scnt 2 (by decide), s1⟩
theorem h_settle (hc : Core M) (hn : 0 ≤ n ∧ n ≤ M 2 7) (hNC : NC M n) (q : ∀ M', sb M M' → NC M' (M 2 7) → Q M') : w_X1_settleFrom M n Q :=
  ⟨(M 2 7).toNat + 1, h_settleL _ n M hc hn.1 hn.2 (by have := hn.1; omega) hNC q⟩
end H
