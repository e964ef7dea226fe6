/-! the class: fronts and counts of wholes -/
def wok (M : Mem) (f : Int) : Prop := (0 ≤ M 16 f ∧ M 16 f < 100) ∨ (100 ≤ M 16 f ∧ M 16 f < 100 + M 12 f)
def cok (M : Mem) (f : Int) : Prop := sat (M 18 f) ∧ sat (M 19 f) ∧ sat (M 20 f) ∧ sat (M 21 f)
section H
variable {M : Mem} {Q : Int → Mem → Prop} {x y : Int}
theorem h_fowL {N : Int} (hT : TB M N) (hN : M 1 9 ≤ N) (h3 : M 1 9 ≤ 370) (h12 : M 2 7 ≤ 12) (har : ∀ n, 0 ≤ n → n < M 2 7 → 0 ≤ M 12 n ∧ M 12 n ≤ 2) :
    ∀ (n : Nat) (x lev : Int), 0 ≤ lev → 0 ≤ x → x < M 1 9 → dep (vC M x) ≤ 4 - lev → 5 - lev ≤ n → allF (fun f => f < 100 → wok M f) (vC M x) → Q (hdw (M 16) (vC M x)) M → w_X1_frontOfWhole_L4 Q n M x lev := by
  intro n
  induction n with
  | zero =>
    intro x lev h0 hx0 hx1 hd hn
    have := dep_nn (vC M x)
    omega
  | succ n ih =>
    intro x lev h0 hx0 hx1 hd hn hw q
    have ev := vC_eq hT hx0 (by omega)
    rw [ev] at hd hw q
    rw [dep_nd] at hd
    have na := dep_nn (vC M (M 5 x))
    have nb := dep_nn (vC M (M 6 x))
    rw [allF_nd] at hw
    rw [hdw_nd] at q
    rw [w_X1_frontOfWhole_L4]
    refine ⟨fun h => ?_, fun _ => h_front h3 ⟨hx0, hx1⟩ ?_⟩
    · split at hd <;> omega
    · rcases hT.1 x hx0 (by omega) with ⟨p1, p2, p3⟩ | ⟨p1, p2, p3, p4, p5⟩
      · refine h_has0 (by omega) ⟨fun z => absurd rfl z, fun _ => ?_⟩
        rw [if_pos (by omega), Int.toNat_of_nonneg (by omega)] at q
        exact q
      · have e4 : (((M 4 x).toNat : Nat) : Int) = M 4 x := Int.toNat_of_nonneg p1.1
        have hwf : wok M (M 4 x) := by
          have := hw.1 (by omega)
          rw [e4] at this
          exact this
        rw [if_neg (by omega), e4] at q
        have ha := har _ p1.1 p1.2
        refine h_has1 p1 ⟨fun _ => ⟨by omega, fun h100 => ?_, fun h100 => ?_⟩, fun z => absurd z (by decide)⟩
        · rcases hwf with hwf | hwf
          · omega
          · rw [if_neg (by omega)] at q
            refine ⟨by unfold rg; omega, h_part h3 ⟨hx0, hx1⟩ (fun z => ?_) (fun z => ?_)⟩
            · rw [if_pos (by omega)] at q
              have := p3 (by omega)
              exact ⟨by unfold rg; omega, ih _ _ (by omega) this.1 (by omega) (by split at hd <;> omega) (by omega) hw.2.1 q⟩
            · rw [if_neg (by omega)] at q
              have := p5 (by omega)
              exact ⟨by unfold rg; omega, ih _ _ (by omega) this.1 (by omega) (by split at hd <;> omega) (by omega) hw.2.2 q⟩
        · rw [if_pos (by omega)] at q
          exact q
theorem h_fow {N : Int} (hT : TB M N) (hN : M 1 9 ≤ N) (h3 : M 1 9 ≤ 370) (h12 : M 2 7 ≤ 12) (har : ∀ n, 0 ≤ n → n < M 2 7 → 0 ≤ M 12 n ∧ M 12 n ≤ 2) (hx : 0 ≤ x ∧ x < M 1 9) (hd : dep (vC M x) ≤ 4) (hw : allF (fun f => f < 100 → wok M f) (vC M x)) (q : Q (hdw (M 16) (vC M x)) M) : w_X1_frontOfWhole M x Q :=
  ⟨5, h_fowL hT hN h3 h12 har 5 x 0 (Int.le_refl 0) hx.1 hx.2 hd (by decide) hw q⟩
def cM (M : Mem) : Nat → Int → Int := fun i => M (18 + i)
theorem cok.at {f : Int} (h : cok M f) (k : Nat) (hk : k < 4) : sat (cM M k f) := by
  unfold cM
  match k, hk with
  | 0, _ => exact h.1
  | 1, _ => exact h.2.1
  | 2, _ => exact h.2.2.1
  | 3, _ => exact h.2.2.2
theorem sat_cnw {c : Nat → Int → Int} {k : Nat} (t : Tr) : allF (fun f => f < 100 → sat (c 0 f) ∧ sat (c 1 f) ∧ sat (c k f)) t → sat (cnw c k t) := by
  have s0 : sat 0 := ⟨Int.le_refl 0, by decide⟩
  have s1 : sat 1 := ⟨by decide, by decide⟩
  refine tr_ind (P := fun t => allF (fun f => f < 100 → sat (c 0 f) ∧ sat (c 1 f) ∧ sat (c k f)) t → sat (cnw c k t)) ?_ ?_ t
  · intro t hn _
    rw [tr_leaf (cnw c k) 0 (fun _ => rfl) (fun _ _ _ => rfl) (fun _ _ => rfl) t hn]
    exact s0
  · intro f a b ha hb q
    rw [allF_nd] at q
    rw [cnw_nd]
    by_cases e : 100 ≤ f
    · rw [if_pos e]
      split
      · exact s1
      · exact s0
    · obtain ⟨q1, q2, q3⟩ := q.1 (by omega)
      rw [if_neg e]
      refine sat_sadd (sat_sadd ?_ (sat_smul q1 (ha q.2.1))) (sat_smul q2 (hb q.2.2))
      split
      · exact s0
      · exact q3
theorem h_cnt {N : Int} {k : Nat} (hk : k < 4) (hT : TB M N) (hN : M 1 9 ≤ N) (h3 : M 1 9 ≤ 370) (h12 : M 2 7 ≤ 12) (har : ∀ n, 0 ≤ n → n < M 2 7 → 0 ≤ M 12 n ∧ M 12 n ≤ 2) :
    ∀ (n : Nat) (x lev : Int) (Q : Int → Mem → Prop), 0 ≤ lev → 0 ≤ x → x < M 1 9 → dep (vC M x) ≤ n → dep (vC M x) + lev ≤ 5 → allF (fun f => f < 100 → cok M f) (vC M x) → Q (cnw (cM M) k (vC M x)) M → w_X1_countInWhole n M x (k : Int) lev Q := by
  have s0 : sat 0 := ⟨Int.le_refl 0, by decide⟩
  intro n
  induction n with
  | zero =>
    intro x lev Q h0 hx0 hx1 hn hd hw q
    rw [vC_eq hT hx0 (by omega), dep_nd] at hn
    have na := dep_nn (vC M (M 5 x))
    have nb := dep_nn (vC M (M 6 x))
    split at hn <;> omega
  | succ n ih =>
    intro x lev Q h0 hx0 hx1 hn hd hw q
    have ev := vC_eq hT hx0 (by omega)
    rw [ev] at hn hd hw q
    rw [dep_nd] at hn hd
    have na := dep_nn (vC M (M 5 x))
    have nb := dep_nn (vC M (M 6 x))
    rw [allF_nd] at hw
    rw [cnw_nd] at q
    rw [w_X1_countInWhole]
    refine ⟨fun h => by omega, fun _ => ⟨fun h => by omega, fun _ => ⟨fun hl => h_front h3 ⟨hx0, hx1⟩ ?_, fun hl => by split at hd <;> omega⟩⟩⟩
    rcases hT.1 x hx0 (by omega) with ⟨p1, p2, p3⟩ | ⟨p1, p2, p3, p4, p5⟩
    · rw [if_pos (by omega)] at q
      refine h_has0 (by omega) ⟨fun z => absurd rfl z, fun _ => ⟨by unfold rg; omega, fun e => ?_, fun e => ?_⟩⟩
      · rw [if_neg (by omega)] at q
        exact q
      · rw [if_pos (by omega)] at q
        exact q
    · have e4 : (((M 4 x).toNat : Nat) : Int) = M 4 x := Int.toNat_of_nonneg p1.1
      have hc : cok M (M 4 x) := by
        have := hw.1 (by omega)
        rw [e4] at this
        exact this
      rw [if_neg (by omega), e4] at q
      have ha := har _ p1.1 p1.2
      have ca : sat (cnw (cM M) k (vC M (M 5 x))) := sat_cnw _ (allF_mono (fun f hf h1 => ⟨(hf h1).at 0 (by decide), (hf h1).at 1 (by decide), (hf h1).at k hk⟩) _ hw.2.1)
      have cb : sat (cnw (cM M) k (vC M (M 6 x))) := sat_cnw _ (allF_mono (fun f hf h1 => ⟨(hf h1).at 0 (by decide), (hf h1).at 1 (by decide), (hf h1).at k hk⟩) _ hw.2.2)
      -- the loop over the parts
      have go : ∀ base : Int, sat base → Q (sadd (sadd base (smul (cM M 0 (M 4 x)) (cnw (cM M) k (vC M (M 5 x))))) (smul (cM M 1 (M 4 x)) (cnw (cM M) k (vC M (M 6 x))))) M → ∃ n73, w_X1_countInWhole_L73 (w_X1_countInWhole n) Q n73 M x (k : Int) lev (M 4 x) base 0 := by
        intro base hb q
        refine ⟨3, ?_⟩
        rw [w_X1_countInWhole_L73]
        refine ⟨by omega, fun z => ?_, fun z => ⟨fun z2 => by omega, fun _ => h_part0 h3 ⟨hx0, hx1⟩ ⟨by unfold rg; omega, ih _ _ _ (by omega) (p3 (by omega)).1 (by have := (p3 (by omega)).2; omega) (by split at hn <;> omega) (by split at hd <;> omega) hw.2.1 ⟨by decide, by omega, h_prod (hc.at 0 (by decide)) ca (h_sum hb (sat_smul (hc.at 0 (by decide)) ca) ⟨by unfold rg; omega, ?_⟩)⟩⟩⟩⟩
        · rw [p2 (by omega), p4 (by omega), vC_neg (by decide : (-9 : Int) < 0), cnw_nl, sadd_z hb, sadd_z hb] at q
          exact q
        · have hb2 := sat_sadd hb (sat_smul (hc.at 0 (by decide)) ca)
          rw [w_X1_countInWhole_L73]
          refine ⟨by omega, fun z => ?_, fun z => ⟨fun z2 => by omega, fun _ => h_part1 h3 ⟨hx0, hx1⟩ ⟨by unfold rg; omega, ih _ _ _ (by omega) (p5 (by omega)).1 (by have := (p5 (by omega)).2; omega) (by split at hn <;> omega) (by split at hd <;> omega) hw.2.2 ⟨by decide, by omega, h_prod (hc.at 1 (by decide)) cb (h_sum hb2 (sat_smul (hc.at 1 (by decide)) cb) ⟨by unfold rg; omega, ?_⟩)⟩⟩⟩⟩
          · rw [p4 (by omega), vC_neg (by decide : (-9 : Int) < 0), cnw_nl, sadd_z hb2] at q
            exact q
          · rw [w_X1_countInWhole_L73]
            exact ⟨by omega, fun _ => q, fun _ => ⟨fun _ => q, fun z2 => by omega⟩⟩
      refine h_has1 p1 ⟨fun _ => ⟨fun hk2 => ⟨by omega, by omega, ?_⟩, fun hk2 => ?_⟩, fun z => absurd z (by decide)⟩
      · rw [if_neg (by omega)] at q
        exact go _ (hc.at k hk) q
      · rw [if_pos (by omega)] at q
        exact go _ s0 q
end H
