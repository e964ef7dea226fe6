set_option maxRecDepth 100000 in
theorem s_X4_within {l : Launch} {D : va_G} {ad : Nat → Nat} {cA : Nat → ClassId} {M : Mem} {x0 : Int} {x1 : Int} {x2 : Int} {Q : Int → Mem → Prop} (e0 : rg x0) (e1 : rg x1) (e2 : rg x2) (h : w_X4_within M x0 x1 x2 Q) : AM (xM l D ad cA) yX4_within mX4_within [vi x0, vi x1, vi x2] M (qI Q) := by
  refine AM.ofAW (by decide +kernel) rfl (Nat.le_of_ble_eq_true rfl) ?_
  show AW (xM l D ad cA) mX4_within (qI Q) 0 [(0, vi x0), (1, vi x1), (2, vi x2)] [] M
  refine a_iload_n 0 rfl dX4_within_0 ?_
  refine a_iload_n 1 rfl dX4_within_1 ?_
  refine a_icmp_lt 14 e0 e1 (by decide) dX4_within_2 (fun c1 => ?_) (fun c1 => ?_)
  · have h := h.1 c1
    refine a_iconst dX4_within_14 ?_
    exact a_zret rfl dX4_within_15 (Or.inl rfl) h
  · have h := h.2 c1
    refine a_iload_n 0 rfl dX4_within_5 ?_
    refine a_iload_n 2 rfl dX4_within_6 ?_
    refine a_icmp_gt 14 e0 e2 (by decide) dX4_within_7 (fun c2 => ?_) (fun c2 => ?_)
    · have h := h.1 c2
      refine a_iconst dX4_within_14 ?_
      exact a_zret rfl dX4_within_15 (Or.inl rfl) h
    · have h := h.2 c2
      refine a_iconst dX4_within_10 ?_
      refine a_goto 15 (by decide) dX4_within_11 ?_
      exact a_zret rfl dX4_within_15 (Or.inr rfl) h
set_option maxRecDepth 100000 in
theorem s_X4_isName {l : Launch} {D : va_G} {ad : Nat → Nat} {cA : Nat → ClassId} {M : Mem} {x1 : Int} {Q : Int → Mem → Prop} (e1 : rg x1) (h : w_X4_isName M x1 Q) : AM (xM l D ad cA) yX4_isName mX4_isName [.ref (ad 0), vi x1] M (qI Q) := by
  refine AM.ofAW (by decide +kernel) rfl (Nat.le_of_ble_eq_true rfl) ?_
  show AW (xM l D ad cA) mX4_isName (qI Q) 0 [(0, .ref (ad 0)), (1, vi x1)] [] M
  refine a_iload_n 1 rfl dX4_isName_0 ?_
  refine a_iconst dX4_isName_1 ?_
  refine a_aload_n 0 rfl dX4_isName_2 ?_
  refine gfX4_76 dX4_isName_3 (fun g1 => ?_)
  refine a_iconst dX4_isName_6 ?_
  obtain ⟨g2, h⟩ := h
  refine a_isub dX4_isName_7 ?_
  refine kX4_80 (Nat.le_of_ble_eq_true rfl) (Nat.le_of_ble_eq_true rfl) dX4_isName_8 (s_X4_within e1 (rgk 0 (by decide)) g2 h) (fun r4 M3 g5 h => ?_)
  obtain ⟨z6, h⟩ := h
  exact a_zret rfl dX4_isName_11 z6 h
set_option maxRecDepth 100000 in
theorem s_X4_isFolded {l : Launch} {D : va_G} {ad : Nat → Nat} {cA : Nat → ClassId} {M : Mem} {x1 : Int} {Q : Int → Mem → Prop} (e1 : rg x1) (h : w_X4_isFolded M x1 Q) : AM (xM l D ad cA) yX4_isFolded mX4_isFolded [.ref (ad 0), vi x1] M (qI Q) := by
  refine AM.ofAW (by decide +kernel) rfl (Nat.le_of_ble_eq_true rfl) ?_
  show AW (xM l D ad cA) mX4_isFolded (qI Q) 0 [(0, .ref (ad 0)), (1, vi x1)] [] M
  refine a_aload_n 0 rfl dX4_isFolded_0 ?_
  refine gfX4_13 dX4_isFolded_1 ?_
  refine a_iload_n 1 rfl dX4_isFolded_4 ?_
  obtain ⟨b1, h⟩ := h
  refine ldM_2 dX4_isFolded_5 b1 (fun g2 => ?_)
  refine a_bipush (by decide) dX4_isFolded_6 ?_
  refine a_icmp_eq 24 g2 (rgk (-9) (by decide)) (by decide) dX4_isFolded_8 (fun c3 => ?_) (fun c3 => ?_)
  · have h := h.1 c3
    refine a_iconst dX4_isFolded_24 ?_
    exact a_zret rfl dX4_isFolded_25 (Or.inl rfl) h
  · have h := h.2 c3
    refine a_aload_n 0 rfl dX4_isFolded_11 ?_
    refine gfX4_16 dX4_isFolded_12 ?_
    refine a_iload_n 1 rfl dX4_isFolded_15 ?_
    obtain ⟨b4, h⟩ := h
    refine ldM_3 dX4_isFolded_16 b4 (fun g5 => ?_)
    refine a_if_ne 24 g5 (by decide) dX4_isFolded_17 (fun c6 => ?_) (fun c6 => ?_)
    · have h := h.1 c6
      refine a_iconst dX4_isFolded_24 ?_
      exact a_zret rfl dX4_isFolded_25 (Or.inl rfl) h
    · have h := h.2 c6
      refine a_iconst dX4_isFolded_20 ?_
      refine a_goto 25 (by decide) dX4_isFolded_21 ?_
      exact a_zret rfl dX4_isFolded_25 (Or.inr rfl) h
set_option maxRecDepth 100000 in
theorem s_X4_isTerm {l : Launch} {D : va_G} {ad : Nat → Nat} {cA : Nat → ClassId} {M : Mem} {x1 : Int} {Q : Int → Mem → Prop} (e1 : rg x1) (h : w_X4_isTerm M x1 Q) : AM (xM l D ad cA) yX4_isTerm mX4_isTerm [.ref (ad 0), vi x1] M (qI Q) := by
  refine AM.ofAW (by decide +kernel) rfl (Nat.le_of_ble_eq_true rfl) ?_
  show AW (xM l D ad cA) mX4_isTerm (qI Q) 0 [(0, .ref (ad 0)), (1, vi x1)] [] M
  refine a_iload_n 1 rfl dX4_isTerm_0 ?_
  refine a_iconst dX4_isTerm_1 ?_
  refine a_aload_n 0 rfl dX4_isTerm_2 ?_
  refine gfX4_84 dX4_isTerm_3 (fun g1 => ?_)
  refine a_iconst dX4_isTerm_6 ?_
  obtain ⟨g2, h⟩ := h
  refine a_isub dX4_isTerm_7 ?_
  refine kX4_80 (Nat.le_of_ble_eq_true rfl) (Nat.le_of_ble_eq_true rfl) dX4_isTerm_8 (s_X4_within e1 (rgk 0 (by decide)) g2 h) (fun r4 M3 g5 h => ?_)
  obtain ⟨z6, h⟩ := h
  exact a_zret rfl dX4_isTerm_11 z6 h
set_option maxRecDepth 100000 in
theorem s_X4_part {l : Launch} {D : va_G} {ad : Nat → Nat} {cA : Nat → ClassId} {M : Mem} {x1 : Int} {x2 : Int} {Q : Int → Mem → Prop} (e1 : rg x1) (e2 : rg x2) (h : w_X4_part M x1 x2 Q) : AM (xM l D ad cA) yX4_part mX4_part [.ref (ad 0), vi x1, vi x2] M (qI Q) := by
  refine AM.ofAW (by decide +kernel) rfl (Nat.le_of_ble_eq_true rfl) ?_
  show AW (xM l D ad cA) mX4_part (qI Q) 0 [(0, .ref (ad 0)), (1, vi x1), (2, vi x2)] [] M
  refine a_aload_n 0 rfl dX4_part_0 ?_
  refine gfX4_23 dX4_part_1 ?_
  refine a_iconst dX4_part_4 ?_
  refine a_iload_n 1 rfl dX4_part_5 ?_
  obtain ⟨g1, h⟩ := h
  refine a_imul dX4_part_6 ?_
  refine a_iload_n 2 rfl dX4_part_7 ?_
  obtain ⟨g2, h⟩ := h
  refine a_iadd dX4_part_8 ?_
  obtain ⟨b3, h⟩ := h
  refine ldM_5 dX4_part_9 b3 (fun g4 => ?_)
  exact a_iret rfl dX4_part_10 g4 h
set_option maxRecDepth 100000 in
theorem s_X4_partsOf {l : Launch} {D : va_G} {ad : Nat → Nat} {cA : Nat → ClassId} {M : Mem} {x1 : Int} {Q : Int → Mem → Prop} (e1 : rg x1) (h : w_X4_partsOf M x1 Q) : AM (xM l D ad cA) yX4_partsOf mX4_partsOf [.ref (ad 0), vi x1] M (qI Q) := by
  refine AM.ofAW (by decide +kernel) rfl (Nat.le_of_ble_eq_true rfl) ?_
  show AW (xM l D ad cA) mX4_partsOf (qI Q) 0 [(0, .ref (ad 0)), (1, vi x1)] [] M
  refine a_aload_n 0 rfl dX4_partsOf_0 ?_
  refine gfX4_20 dX4_partsOf_1 ?_
  refine a_iload_n 1 rfl dX4_partsOf_4 ?_
  obtain ⟨b1, h⟩ := h
  refine ldM_4 dX4_partsOf_5 b1 (fun g2 => ?_)
  refine a_bipush (by decide) dX4_partsOf_6 ?_
  refine a_icmp_lt 15 g2 (rgk 100 (by decide)) (by decide) dX4_partsOf_8 (fun c3 => ?_) (fun c3 => ?_)
  · have h := h.1 c3
    refine a_aload_n 0 rfl dX4_partsOf_15 ?_
    refine gfX4_7 dX4_partsOf_16 ?_
    refine a_aload_n 0 rfl dX4_partsOf_19 ?_
    refine gfX4_20 dX4_partsOf_20 ?_
    refine a_iload_n 1 rfl dX4_partsOf_23 ?_
    obtain ⟨b4, h⟩ := h
    refine ldM_4 dX4_partsOf_24 b4 (fun g5 => ?_)
    obtain ⟨b6, h⟩ := h
    refine ldM_1 dX4_partsOf_25 b6 (fun g7 => ?_)
    exact a_iret rfl dX4_partsOf_26 g7 h
  · have h := h.2 c3
    refine a_iconst dX4_partsOf_11 ?_
    refine a_goto 26 (by decide) dX4_partsOf_12 ?_
    exact a_iret rfl dX4_partsOf_26 (rgk 0 (by decide)) h
set_option maxRecDepth 100000 in
theorem s_X4_find_L3 {l : Launch} {D : va_G} {ad : Nat → Nat} {cA : Nat → ClassId} (Q : Int → Mem → Prop) : ∀ (n : Nat) (M : Mem) (x1 : Int) (x2 : Int) (x3 : Int) (x4 : Int), rg x1 → rg x2 → rg x3 → rg x4 → w_X4_find_L3 Q n M x1 x2 x3 x4 → AW (xM l D ad cA) mX4_find (qI Q) 3 [(0, .ref (ad 0)), (1, vi x1), (2, vi x2), (3, vi x3), (4, vi x4)] [] M := by
  intro n
  induction n with
  | zero => intro M x1 x2 x3 x4 e1 e2 e3 e4 h; exact absurd h id
  | succ n ih =>
    intro M x1 x2 x3 x4 e1 e2 e3 e4 h
    refine a_iload 4 rfl dX4_find_3 ?_
    refine a_aload_n 0 rfl dX4_find_5 ?_
    refine gfX4_87 dX4_find_6 (fun g1 => ?_)
    refine a_icmp_ge 54 e4 g1 (by decide) dX4_find_9 (fun c2 => ?_) (fun c2 => ?_)
    · have h := h.1 c2
      refine a_bipush (by decide) dX4_find_54 ?_
      exact a_iret rfl dX4_find_56 (rgk (-9) (by decide)) h
    · have h := h.2 c2
      refine a_aload_n 0 rfl dX4_find_12 ?_
      refine gfX4_20 dX4_find_13 ?_
      refine a_iload 4 rfl dX4_find_16 ?_
      obtain ⟨b3, h⟩ := h
      refine ldM_4 dX4_find_18 b3 (fun g4 => ?_)
      refine a_iload_n 1 rfl dX4_find_19 ?_
      refine a_icmp_ne 48 g4 e1 (by decide) dX4_find_20 (fun c5 => ?_) (fun c5 => ?_)
      · have h := h.1 c5
        obtain ⟨g6, h⟩ := h
        refine a_iinc (lv' := [(4, vi (x4 + 1)), (0, .ref (ad 0)), (1, vi x1), (2, vi x2), (3, vi x3)]) 4 rfl (Nat.le_of_ble_eq_true rfl) rfl dX4_find_48 ?_
        refine a_goto 3 (by decide) dX4_find_51 ?_
        refine AW.pick [1, 2, 3, 4, 0] rfl ?_
        exact ih M x1 x2 x3 (x4 + 1) e1 e2 e3 g6 h
      · have h := h.2 c5
        refine a_aload_n 0 rfl dX4_find_23 ?_
        refine a_iload 4 rfl dX4_find_24 ?_
        refine a_iconst dX4_find_26 ?_
        refine kX4_90 (Nat.le_of_ble_eq_true rfl) (Nat.le_of_ble_eq_true rfl) dX4_find_27 (s_X4_part e4 (rgk 0 (by decide)) h) (fun r8 M7 g9 h => ?_)
        refine a_iload_n 2 rfl dX4_find_30 ?_
        refine a_icmp_ne 48 g9 e2 (by decide) dX4_find_31 (fun c10 => ?_) (fun c10 => ?_)
        · have h := h.1 c10
          obtain ⟨g11, h⟩ := h
          refine a_iinc (lv' := [(4, vi (x4 + 1)), (0, .ref (ad 0)), (1, vi x1), (2, vi x2), (3, vi x3)]) 4 rfl (Nat.le_of_ble_eq_true rfl) rfl dX4_find_48 ?_
          refine a_goto 3 (by decide) dX4_find_51 ?_
          refine AW.pick [1, 2, 3, 4, 0] rfl ?_
          exact ih M7 x1 x2 x3 (x4 + 1) e1 e2 e3 g11 h
        · have h := h.2 c10
          refine a_aload_n 0 rfl dX4_find_34 ?_
          refine a_iload 4 rfl dX4_find_35 ?_
          refine a_iconst dX4_find_37 ?_
          refine kX4_90 (Nat.le_of_ble_eq_true rfl) (Nat.le_of_ble_eq_true rfl) dX4_find_38 (s_X4_part e4 (rgk 1 (by decide)) h) (fun r13 M12 g14 h => ?_)
          refine a_iload_n 3 rfl dX4_find_41 ?_
          refine a_icmp_ne 48 g14 e3 (by decide) dX4_find_42 (fun c15 => ?_) (fun c15 => ?_)
          · have h := h.1 c15
            obtain ⟨g16, h⟩ := h
            refine a_iinc (lv' := [(4, vi (x4 + 1)), (0, .ref (ad 0)), (1, vi x1), (2, vi x2), (3, vi x3)]) 4 rfl (Nat.le_of_ble_eq_true rfl) rfl dX4_find_48 ?_
            refine a_goto 3 (by decide) dX4_find_51 ?_
            refine AW.pick [1, 2, 3, 4, 0] rfl ?_
            exact ih M12 x1 x2 x3 (x4 + 1) e1 e2 e3 g16 h
          · have h := h.2 c15
            refine a_iload 4 rfl dX4_find_45 ?_
            exact a_iret rfl dX4_find_47 e4 h
set_option maxRecDepth 100000 in
theorem s_X4_find {l : Launch} {D : va_G} {ad : Nat → Nat} {cA : Nat → ClassId} {M : Mem} {x1 : Int} {x2 : Int} {x3 : Int} {Q : Int → Mem → Prop} (e1 : rg x1) (e2 : rg x2) (e3 : rg x3) (h : w_X4_find M x1 x2 x3 Q) : AM (xM l D ad cA) yX4_find mX4_find [.ref (ad 0), vi x1, vi x2, vi x3] M (qI Q) := by
  refine AM.ofAW (by decide +kernel) rfl (Nat.le_of_ble_eq_true rfl) ?_
  show AW (xM l D ad cA) mX4_find (qI Q) 0 [(0, .ref (ad 0)), (1, vi x1), (2, vi x2), (3, vi x3)] [] M
  refine a_iconst dX4_find_0 ?_
  refine a_istore (lv' := [(4, vi 0), (0, .ref (ad 0)), (1, vi x1), (2, vi x2), (3, vi x3)]) (Nat.le_of_ble_eq_true rfl) rfl dX4_find_1 ?_
  obtain ⟨n3, h⟩ := h
  refine AW.pick [1, 2, 3, 4, 0] rfl ?_
  exact s_X4_find_L3 Q n3 M x1 x2 x3 0 e1 e2 e3 (rgk 0 (by decide)) h
set_option maxRecDepth 100000 in
theorem s_X4_depthBy_J28 {l : Launch} {D : va_G} {ad : Nat → Nat} {cA : Nat → ClassId} (Q : Int → Mem → Prop) (M : Mem) (x2 : Int) (y0 : Int) (e2 : rg x2) (f0 : rg y0) (h : w_X4_depthBy_J28 Q M x2 y0) : AW (xM l D ad cA) mX4_depthBy (qI Q) 28 [(0, .ref (ad 0)), (2, vi x2)] [vi y0] M := by
  refine a_istore_n (lv' := [(3, vi y0), (0, .ref (ad 0)), (2, vi x2)]) (Nat.le_of_ble_eq_true rfl) rfl dX4_depthBy_28 ?_
  refine a_iconst dX4_depthBy_29 ?_
  refine a_iload_n 2 rfl dX4_depthBy_30 ?_
  refine a_bipush (by decide) dX4_depthBy_31 ?_
  refine a_icmp_eq 55 e2 (rgk (-9) (by decide)) (by decide) dX4_depthBy_33 (fun c1 => ?_) (fun c1 => ?_)
  · have h := h.1 c1
    refine a_iload_n 0 rfl dX4_depthBy_55 ?_
    obtain ⟨g2, h⟩ := h
    refine a_iadd dX4_depthBy_56 ?_
    exact a_iret rfl dX4_depthBy_57 g2 h
  · have h := h.2 c1
    refine a_aload_n 1 rfl dX4_depthBy_36 ?_
    refine gfX4_26 dX4_depthBy_37 ?_
    refine a_iload_n 2 rfl dX4_depthBy_40 ?_
    obtain ⟨b3, h⟩ := h
    refine ldM_6 dX4_depthBy_41 b3 (fun g4 => ?_)
    refine a_iload_n 0 rfl dX4_depthBy_42 ?_
    refine a_icmp_le 55 g4 f0 (by decide) dX4_depthBy_43 (fun c5 => ?_) (fun c5 => ?_)
    · have h := h.1 c5
      refine a_iload_n 0 rfl dX4_depthBy_55 ?_
      obtain ⟨g6, h⟩ := h
      refine a_iadd dX4_depthBy_56 ?_
      exact a_iret rfl dX4_depthBy_57 g6 h
    · have h := h.2 c5
      refine a_aload_n 1 rfl dX4_depthBy_46 ?_
      refine gfX4_26 dX4_depthBy_47 ?_
      refine a_iload_n 2 rfl dX4_depthBy_50 ?_
      obtain ⟨b7, h⟩ := h
      refine ldM_6 dX4_depthBy_51 b7 (fun g8 => ?_)
      refine a_goto 56 (by decide) dX4_depthBy_52 ?_
      obtain ⟨g9, h⟩ := h
      refine a_iadd dX4_depthBy_56 ?_
      exact a_iret rfl dX4_depthBy_57 g9 h
set_option maxRecDepth 100000 in
theorem s_X4_depthBy_J27 {l : Launch} {D : va_G} {ad : Nat → Nat} {cA : Nat → ClassId} (Q : Int → Mem → Prop) (M : Mem) (x2 : Int) (x3 : Int) (e2 : rg x2) (e3 : rg x3) (h : w_X4_depthBy_J27 Q M x2 x3) : AW (xM l D ad cA) mX4_depthBy (qI Q) 27 [(0, .ref (ad 0)), (2, vi x2), (3, vi x3)] [] M := by
  refine a_iload_n 2 rfl dX4_depthBy_27 ?_
  refine AW.pick [0, 1] rfl ?_
  exact s_X4_depthBy_J28 Q M x2 x3 e2 e3 h
set_option maxRecDepth 100000 in
theorem s_X4_depthBy {l : Launch} {D : va_G} {ad : Nat → Nat} {cA : Nat → ClassId} {M : Mem} {x1 : Int} {x2 : Int} {Q : Int → Mem → Prop} (e1 : rg x1) (e2 : rg x2) (h : w_X4_depthBy M x1 x2 Q) : AM (xM l D ad cA) yX4_depthBy mX4_depthBy [.ref (ad 0), vi x1, vi x2] M (qI Q) := by
  refine AM.ofAW (by decide +kernel) rfl (Nat.le_of_ble_eq_true rfl) ?_
  show AW (xM l D ad cA) mX4_depthBy (qI Q) 0 [(0, .ref (ad 0)), (1, vi x1), (2, vi x2)] [] M
  refine a_iconst dX4_depthBy_0 ?_
  refine a_istore_n (lv' := [(3, vi 0), (0, .ref (ad 0)), (1, vi x1), (2, vi x2)]) (Nat.le_of_ble_eq_true rfl) rfl dX4_depthBy_1 ?_
  refine a_iload_n 2 rfl dX4_depthBy_2 ?_
  refine a_bipush (by decide) dX4_depthBy_3 ?_
  refine a_icmp_eq 27 e1 (rgk (-9) (by decide)) (by decide) dX4_depthBy_5 (fun c1 => ?_) (fun c1 => ?_)
  · have h := h.1 c1
    refine AW.pick [1, 3, 0] rfl ?_
    exact s_X4_depthBy_J27 Q M x2 0 e2 (rgk 0 (by decide)) h
  · have h := h.2 c1
    refine a_aload_n 1 rfl dX4_depthBy_8 ?_
    refine gfX4_26 dX4_depthBy_9 ?_
    refine a_iload_n 2 rfl dX4_depthBy_12 ?_
    obtain ⟨b2, h⟩ := h
    refine ldM_6 dX4_depthBy_13 b2 (fun g3 => ?_)
    refine a_iload_n 0 rfl dX4_depthBy_14 ?_
    refine a_icmp_le 27 g3 (rgk 0 (by decide)) (by decide) dX4_depthBy_15 (fun c4 => ?_) (fun c4 => ?_)
    · have h := h.1 c4
      refine AW.pick [1, 3, 0] rfl ?_
      exact s_X4_depthBy_J27 Q M x2 0 e2 (rgk 0 (by decide)) h
    · have h := h.2 c4
      refine a_aload_n 1 rfl dX4_depthBy_18 ?_
      refine gfX4_26 dX4_depthBy_19 ?_
      refine a_iload_n 2 rfl dX4_depthBy_22 ?_
      obtain ⟨b5, h⟩ := h
      refine ldM_6 dX4_depthBy_23 b5 (fun g6 => ?_)
      refine a_goto 28 (by decide) dX4_depthBy_24 ?_
      refine AW.pick [1, 3] rfl ?_
      exact s_X4_depthBy_J28 Q M x2 (M 6 x1) e2 g6 h
set_option maxRecDepth 100000 in
theorem s_X4_comes {l : Launch} {D : va_G} {ad : Nat → Nat} {cA : Nat → ClassId} {M : Mem} {x1 : Int} {x2 : Int} {x3 : Int} {Q : Int → Mem → Prop} (e1 : rg x1) (e2 : rg x2) (e3 : rg x3) (h : w_X4_comes M x1 x2 x3 Q) : AM (xM l D ad cA) yX4_comes mX4_comes [.ref (ad 0), vi x1, vi x2, vi x3] M (qI Q) := by
  refine AM.ofAW (by decide +kernel) rfl (Nat.le_of_ble_eq_true rfl) ?_
  show AW (xM l D ad cA) mX4_comes (qI Q) 0 [(0, .ref (ad 0)), (1, vi x1), (2, vi x2), (3, vi x3)] [] M
  refine a_aload_n 0 rfl dX4_comes_0 ?_
  refine a_iload_n 1 rfl dX4_comes_1 ?_
  refine a_iload_n 2 rfl dX4_comes_2 ?_
  refine a_iload_n 3 rfl dX4_comes_3 ?_
  refine kX4_94 (Nat.le_of_ble_eq_true rfl) (Nat.le_of_ble_eq_true rfl) dX4_comes_4 (s_X4_find e1 e2 e3 h) (fun r2 M1 g3 h => ?_)
  refine a_istore (lv' := [(4, vi r2), (0, .ref (ad 0)), (1, vi x1), (2, vi x2), (3, vi x3)]) (Nat.le_of_ble_eq_true rfl) rfl dX4_comes_7 ?_
  refine a_iload 0 rfl dX4_comes_9 ?_
  refine a_bipush (by decide) dX4_comes_11 ?_
  refine a_icmp_eq 19 g3 (rgk (-9) (by decide)) (by decide) dX4_comes_13 (fun c4 => ?_) (fun c4 => ?_)
  · have h := h.1 c4
    refine a_aload_n 1 rfl dX4_comes_19 ?_
    refine gfX4_20 dX4_comes_20 ?_
    refine a_aload_n 1 rfl dX4_comes_23 ?_
    refine gfX4_87 dX4_comes_24 (fun g5 => ?_)
    refine a_iload_n 2 rfl dX4_comes_27 ?_
    obtain ⟨b6, h⟩ := h
    refine stM_4 dX4_comes_28 b6 e1 ?_
    refine a_aload_n 1 rfl dX4_comes_29 ?_
    refine gfX4_23 dX4_comes_30 ?_
    refine a_iconst dX4_comes_33 ?_
    refine a_aload_n 1 rfl dX4_comes_34 ?_
    refine gfX4_87 dX4_comes_35 (fun g7 => ?_)
    obtain ⟨g8, h⟩ := h
    refine a_imul dX4_comes_38 ?_
    refine a_iload_n 3 rfl dX4_comes_39 ?_
    obtain ⟨b9, h⟩ := h
    refine stM_5 dX4_comes_40 b9 e2 ?_
    refine a_aload_n 1 rfl dX4_comes_41 ?_
    refine gfX4_23 dX4_comes_42 ?_
    refine a_iconst dX4_comes_45 ?_
    refine a_aload_n 1 rfl dX4_comes_46 ?_
    refine gfX4_87 dX4_comes_47 (fun g10 => ?_)
    obtain ⟨g11, h⟩ := h
    refine a_imul dX4_comes_50 ?_
    refine a_iconst dX4_comes_51 ?_
    obtain ⟨g12, h⟩ := h
    refine a_iadd dX4_comes_52 ?_
    refine a_iload_n 4 rfl dX4_comes_53 ?_
    obtain ⟨b13, h⟩ := h
    refine stM_5 dX4_comes_54 b13 e3 ?_
    refine a_aload_n 1 rfl dX4_comes_55 ?_
    refine gfX4_26 dX4_comes_56 ?_
    refine a_aload_n 1 rfl dX4_comes_59 ?_
    refine gfX4_87 dX4_comes_60 (fun g14 => ?_)
    refine a_aload_n 1 rfl dX4_comes_63 ?_
    refine a_iload_n 3 rfl dX4_comes_64 ?_
    refine a_iload_n 4 rfl dX4_comes_65 ?_
    refine kX4_98 (Nat.le_of_ble_eq_true rfl) (Nat.le_of_ble_eq_true rfl) dX4_comes_66 (s_X4_depthBy e2 e3 h) (fun r16 M15 g17 h => ?_)
    obtain ⟨b18, h⟩ := h
    refine stM_6 dX4_comes_69 b18 g17 ?_
    refine a_aload_n 1 rfl dX4_comes_70 ?_
    refine a_dup rfl dX4_comes_71 ?_
    refine gfX4_87 dX4_comes_72 (fun g19 => ?_)
    refine a_iconst dX4_comes_75 ?_
    obtain ⟨g20, h⟩ := h
    refine a_iadd dX4_comes_76 ?_
    refine pfX4_87 dX4_comes_77 g20 ?_
    refine a_aload_n 1 rfl dX4_comes_80 ?_
    refine gfX4_87 dX4_comes_81 (fun g21 => ?_)
    refine a_iconst dX4_comes_84 ?_
    obtain ⟨g22, h⟩ := h
    refine a_isub dX4_comes_85 ?_
    exact a_iret rfl dX4_comes_86 g22 h
  · have h := h.2 c4
    refine a_iload 0 rfl dX4_comes_16 ?_
    exact a_iret rfl dX4_comes_18 g3 h
set_option maxRecDepth 100000 in
theorem s_X4_makes_J24 {l : Launch} {D : va_G} {ad : Nat → Nat} {cA : Nat → ClassId} (Q : Int → Mem → Prop) (M : Mem) (x1 : Int) (x2 : Int) (x3 : Int) (e1 : rg x1) (e2 : rg x2) (e3 : rg x3) (h : w_X4_makes_J24 Q M x1 x2 x3) : AW (xM l D ad cA) mX4_makes (qI Q) 24 [(0, .ref (ad 0)), (1, vi x1), (2, vi x2), (3, vi x3)] [] M := by
  refine a_aload_n 0 rfl dX4_makes_24 ?_
  refine a_iload_n 1 rfl dX4_makes_25 ?_
  refine a_iload_n 2 rfl dX4_makes_26 ?_
  refine a_iload_n 3 rfl dX4_makes_27 ?_
  refine kX4_101 (Nat.le_of_ble_eq_true rfl) (Nat.le_of_ble_eq_true rfl) dX4_makes_28 (s_X4_comes e1 e2 e3 h) (fun r2 M1 g3 h => ?_)
  refine a_istore (lv' := [(4, vi r2), (0, .ref (ad 0)), (1, vi x1), (2, vi x2), (3, vi x3)]) (Nat.le_of_ble_eq_true rfl) rfl dX4_makes_31 ?_
  refine a_aload_n 1 rfl dX4_makes_33 ?_
  refine a_aload_n 1 rfl dX4_makes_34 ?_
  refine gfX4_87 dX4_makes_35 (fun g4 => ?_)
  refine pfX4_84 dX4_makes_38 g4 ?_
  refine a_iload 0 rfl dX4_makes_41 ?_
  exact a_iret rfl dX4_makes_43 g3 h
set_option maxRecDepth 100000 in
theorem s_X4_makes {l : Launch} {D : va_G} {ad : Nat → Nat} {cA : Nat → ClassId} {M : Mem} {x1 : Int} {x2 : Int} {x3 : Int} {Q : Int → Mem → Prop} (e1 : rg x1) (e2 : rg x2) (e3 : rg x3) (h : w_X4_makes M x1 x2 x3 Q) : AM (xM l D ad cA) yX4_makes mX4_makes [.ref (ad 0), vi x1, vi x2, vi x3] M (qI Q) := by
  refine AM.ofAW (by decide +kernel) rfl (Nat.le_of_ble_eq_true rfl) ?_
  show AW (xM l D ad cA) mX4_makes (qI Q) 0 [(0, .ref (ad 0)), (1, vi x1), (2, vi x2), (3, vi x3)] [] M
  refine a_aload_n 0 rfl dX4_makes_0 ?_
  refine a_iload_n 1 rfl dX4_makes_1 ?_
  refine a_iload_n 2 rfl dX4_makes_2 ?_
  refine a_iload_n 3 rfl dX4_makes_3 ?_
  refine kX4_94 (Nat.le_of_ble_eq_true rfl) (Nat.le_of_ble_eq_true rfl) dX4_makes_4 (s_X4_find e1 e2 e3 h) (fun r2 M1 g3 h => ?_)
  refine a_bipush (by decide) dX4_makes_7 ?_
  refine a_icmp_ne 24 g3 (rgk (-9) (by decide)) (by decide) dX4_makes_9 (fun c4 => ?_) (fun c4 => ?_)
  · have h := h.1 c4
    refine AW.pick [0, 1, 2, 3] rfl ?_
    exact s_X4_makes_J24 Q M1 x1 x2 x3 e1 e2 e3 h
  · have h := h.2 c4
    refine a_aload_n 0 rfl dX4_makes_12 ?_
    refine gfX4_84 dX4_makes_13 (fun g5 => ?_)
    refine a_bipush (by decide) dX4_makes_16 ?_
    refine a_icmp_ne 24 g5 (rgk 90 (by decide)) (by decide) dX4_makes_18 (fun c6 => ?_) (fun c6 => ?_)
    · have h := h.1 c6
      refine AW.pick [0, 1, 2, 3] rfl ?_
      exact s_X4_makes_J24 Q M1 x1 x2 x3 e1 e2 e3 h
    · have h := h.2 c6
      refine a_bipush (by decide) dX4_makes_21 ?_
      exact a_iret rfl dX4_makes_23 (rgk (-4) (by decide)) h
set_option maxRecDepth 100000 in
theorem s_X4_name {l : Launch} {D : va_G} {ad : Nat → Nat} {cA : Nat → ClassId} {M : Mem} {x1 : Int} {Q : Int → Mem → Prop} (e1 : rg x1) (h : w_X4_name M x1 Q) : AM (xM l D ad cA) yX4_name mX4_name [.ref (ad 0), vi x1] M (qI Q) := by
  refine AM.ofAW (by decide +kernel) rfl (Nat.le_of_ble_eq_true rfl) ?_
  show AW (xM l D ad cA) mX4_name (qI Q) 0 [(0, .ref (ad 0)), (1, vi x1)] [] M
  refine a_iload_n 1 rfl dX4_name_0 ?_
  refine a_iconst dX4_name_1 ?_
  refine a_iconst dX4_name_2 ?_
  refine kX4_80 (Nat.le_of_ble_eq_true rfl) (Nat.le_of_ble_eq_true rfl) dX4_name_3 (s_X4_within e1 (rgk 0 (by decide)) (rgk 2 (by decide)) h) (fun r2 M1 g3 h => ?_)
  refine a_if_ne 12 g3 (by decide) dX4_name_6 (fun c4 => ?_) (fun c4 => ?_)
  · have h := h.1 c4
    refine a_aload_n 0 rfl dX4_name_12 ?_
    refine gfX4_76 dX4_name_13 (fun g5 => ?_)
    refine a_bipush (by decide) dX4_name_16 ?_
    refine a_icmp_ne 24 g5 (rgk 12 (by decide)) (by decide) dX4_name_18 (fun c6 => ?_) (fun c6 => ?_)
    · have h := h.1 c6
      refine a_aload_n 0 rfl dX4_name_24 ?_
      refine gfX4_7 dX4_name_25 ?_
      refine a_aload_n 0 rfl dX4_name_28 ?_
      refine gfX4_76 dX4_name_29 (fun g7 => ?_)
      refine a_iload_n 1 rfl dX4_name_32 ?_
      obtain ⟨b8, h⟩ := h
      refine stM_1 dX4_name_33 b8 e1 ?_
      refine a_aload_n 0 rfl dX4_name_34 ?_
      refine a_dup rfl dX4_name_35 ?_
      refine gfX4_76 dX4_name_36 (fun g9 => ?_)
      refine a_iconst dX4_name_39 ?_
      obtain ⟨g10, h⟩ := h
      refine a_iadd dX4_name_40 ?_
      refine pfX4_76 dX4_name_41 g10 ?_
      refine a_aload_n 0 rfl dX4_name_44 ?_
      refine gfX4_76 dX4_name_45 (fun g11 => ?_)
      refine a_iconst dX4_name_48 ?_
      obtain ⟨g12, h⟩ := h
      refine a_isub dX4_name_49 ?_
      exact a_iret rfl dX4_name_50 g12 h
    · have h := h.2 c6
      refine a_bipush (by decide) dX4_name_21 ?_
      exact a_iret rfl dX4_name_23 (rgk (-4) (by decide)) h
  · have h := h.2 c4
    refine a_bipush (by decide) dX4_name_9 ?_
    exact a_iret rfl dX4_name_11 (rgk (-2) (by decide)) h
set_option maxRecDepth 100000 in
theorem s_X4_parameter {l : Launch} {D : va_G} {ad : Nat → Nat} {cA : Nat → ClassId} {M : Mem} {x1 : Int} {Q : Int → Mem → Prop} (e1 : rg x1) (h : w_X4_parameter M x1 Q) : AM (xM l D ad cA) yX4_parameter mX4_parameter [.ref (ad 0), vi x1] M (qI Q) := by
  refine AM.ofAW (by decide +kernel) rfl (Nat.le_of_ble_eq_true rfl) ?_
  show AW (xM l D ad cA) mX4_parameter (qI Q) 0 [(0, .ref (ad 0)), (1, vi x1)] [] M
  refine a_iload_n 1 rfl dX4_parameter_0 ?_
  refine a_iconst dX4_parameter_1 ?_
  refine a_iconst dX4_parameter_2 ?_
  refine kX4_80 (Nat.le_of_ble_eq_true rfl) (Nat.le_of_ble_eq_true rfl) dX4_parameter_3 (s_X4_within e1 (rgk 0 (by decide)) (rgk 1 (by decide)) h) (fun r2 M1 g3 h => ?_)
  refine a_if_eq 24 g3 (by decide) dX4_parameter_6 (fun c4 => ?_) (fun c4 => ?_)
  · have h := h.1 c4
    refine a_bipush (by decide) dX4_parameter_24 ?_
    exact a_iret rfl dX4_parameter_26 (rgk (-2) (by decide)) h
  · have h := h.2 c4
    refine a_aload_n 0 rfl dX4_parameter_9 ?_
    refine a_bipush (by decide) dX4_parameter_10 ?_
    refine a_iload_n 1 rfl dX4_parameter_12 ?_
    obtain ⟨g5, h⟩ := h
    refine a_iadd dX4_parameter_13 ?_
    refine a_bipush (by decide) dX4_parameter_14 ?_
    refine a_bipush (by decide) dX4_parameter_16 ?_
    refine kX4_104 (Nat.le_of_ble_eq_true rfl) (Nat.le_of_ble_eq_true rfl) dX4_parameter_18 (s_X4_makes g5 (rgk (-9) (by decide)) (rgk (-9) (by decide)) h) (fun r7 M6 g8 h => ?_)
    refine a_goto 26 (by decide) dX4_parameter_21 ?_
    exact a_iret rfl dX4_parameter_26 g8 h
set_option maxRecDepth 100000 in
theorem s_X4_term_J80 {l : Launch} {D : va_G} {ad : Nat → Nat} {cA : Nat → ClassId} (Q : Int → Mem → Prop) (M : Mem) (x1 : Int) (x2 : Int) (x3 : Int) (e1 : rg x1) (e2 : rg x2) (e3 : rg x3) (h : w_X4_term_J80 Q M x1 x2 x3) : AW (xM l D ad cA) mX4_term (qI Q) 80 [(0, .ref (ad 0)), (1, vi x1), (2, vi x2), (3, vi x3)] [] M := by
  refine a_aload_n 0 rfl dX4_term_80 ?_
  refine a_iload_n 2 rfl dX4_term_81 ?_
  refine a_iload_n 3 rfl dX4_term_82 ?_
  refine kX4_98 (Nat.le_of_ble_eq_true rfl) (Nat.le_of_ble_eq_true rfl) dX4_term_83 (s_X4_depthBy e2 e3 h) (fun r2 M1 g3 h => ?_)
  refine a_iconst dX4_term_86 ?_
  refine a_icmp_le 95 g3 (rgk 4 (by decide)) (by decide) dX4_term_87 (fun c4 => ?_) (fun c4 => ?_)
  · have h := h.1 c4
    refine a_aload_n 0 rfl dX4_term_95 ?_
    refine a_iload_n 1 rfl dX4_term_96 ?_
    refine a_iload_n 2 rfl dX4_term_97 ?_
    refine a_iload_n 3 rfl dX4_term_98 ?_
    refine kX4_104 (Nat.le_of_ble_eq_true rfl) (Nat.le_of_ble_eq_true rfl) dX4_term_99 (s_X4_makes e1 e2 e3 h) (fun r6 M5 g7 h => ?_)
    exact a_iret rfl dX4_term_102 g7 h
  · have h := h.2 c4
    refine a_bipush (by decide) dX4_term_90 ?_
    refine a_goto 102 (by decide) dX4_term_92 ?_
    exact a_iret rfl dX4_term_102 (rgk (-3) (by decide)) h
set_option maxRecDepth 100000 in
theorem s_X4_term_J61 {l : Launch} {D : va_G} {ad : Nat → Nat} {cA : Nat → ClassId} (Q : Int → Mem → Prop) (M : Mem) (x1 : Int) (x2 : Int) (x3 : Int) (e1 : rg x1) (e2 : rg x2) (e3 : rg x3) (h : w_X4_term_J61 Q M x1 x2 x3) : AW (xM l D ad cA) mX4_term (qI Q) 61 [(0, .ref (ad 0)), (1, vi x1), (2, vi x2), (3, vi x3)] [] M := by
  refine a_aload_n 0 rfl dX4_term_61 ?_
  refine gfX4_7 dX4_term_62 ?_
  refine a_iload_n 1 rfl dX4_term_65 ?_
  obtain ⟨b1, h⟩ := h
  refine ldM_1 dX4_term_66 b1 (fun g2 => ?_)
  refine a_iconst dX4_term_67 ?_
  refine a_icmp_ge 80 g2 (rgk 2 (by decide)) (by decide) dX4_term_68 (fun c3 => ?_) (fun c3 => ?_)
  · have h := h.1 c3
    refine AW.pick [0, 1, 2, 3] rfl ?_
    exact s_X4_term_J80 Q M x1 x2 x3 e1 e2 e3 h
  · have h := h.2 c3
    refine a_iload_n 3 rfl dX4_term_71 ?_
    refine a_bipush (by decide) dX4_term_72 ?_
    refine a_icmp_eq 80 e3 (rgk (-9) (by decide)) (by decide) dX4_term_74 (fun c4 => ?_) (fun c4 => ?_)
    · have h := h.1 c4
      refine AW.pick [0, 1, 2, 3] rfl ?_
      exact s_X4_term_J80 Q M x1 x2 x3 e1 e2 e3 h
    · have h := h.2 c4
      refine a_bipush (by decide) dX4_term_77 ?_
      exact a_iret rfl dX4_term_79 (rgk (-2) (by decide)) h
set_option maxRecDepth 100000 in
theorem s_X4_term_J45 {l : Launch} {D : va_G} {ad : Nat → Nat} {cA : Nat → ClassId} (Q : Int → Mem → Prop) (M : Mem) (x1 : Int) (x2 : Int) (x3 : Int) (e1 : rg x1) (e2 : rg x2) (e3 : rg x3) (h : w_X4_term_J45 Q M x1 x2 x3) : AW (xM l D ad cA) mX4_term (qI Q) 45 [(0, .ref (ad 0)), (1, vi x1), (2, vi x2), (3, vi x3)] [] M := by
  refine a_aload_n 0 rfl dX4_term_45 ?_
  refine gfX4_7 dX4_term_46 ?_
  refine a_iload_n 1 rfl dX4_term_49 ?_
  obtain ⟨b1, h⟩ := h
  refine ldM_1 dX4_term_50 b1 (fun g2 => ?_)
  refine a_iconst dX4_term_51 ?_
  refine a_icmp_ge 61 g2 (rgk 1 (by decide)) (by decide) dX4_term_52 (fun c3 => ?_) (fun c3 => ?_)
  · have h := h.1 c3
    refine AW.pick [0, 1, 2, 3] rfl ?_
    exact s_X4_term_J61 Q M x1 x2 x3 e1 e2 e3 h
  · have h := h.2 c3
    refine a_iload_n 2 rfl dX4_term_55 ?_
    refine a_bipush (by decide) dX4_term_56 ?_
    refine a_icmp_ne 77 e2 (rgk (-9) (by decide)) (by decide) dX4_term_58 (fun c4 => ?_) (fun c4 => ?_)
    · have h := h.1 c4
      refine a_bipush (by decide) dX4_term_77 ?_
      exact a_iret rfl dX4_term_79 (rgk (-2) (by decide)) h
    · have h := h.2 c4
      refine AW.pick [0, 1, 2, 3] rfl ?_
      exact s_X4_term_J61 Q M x1 x2 x3 e1 e2 e3 h
set_option maxRecDepth 100000 in
theorem s_X4_term_J25 {l : Launch} {D : va_G} {ad : Nat → Nat} {cA : Nat → ClassId} (Q : Int → Mem → Prop) (M : Mem) (x1 : Int) (x2 : Int) (x3 : Int) (e1 : rg x1) (e2 : rg x2) (e3 : rg x3) (h : w_X4_term_J25 Q M x1 x2 x3) : AW (xM l D ad cA) mX4_term (qI Q) 25 [(0, .ref (ad 0)), (1, vi x1), (2, vi x2), (3, vi x3)] [] M := by
  refine a_aload_n 0 rfl dX4_term_25 ?_
  refine gfX4_7 dX4_term_26 ?_
  refine a_iload_n 1 rfl dX4_term_29 ?_
  obtain ⟨b1, h⟩ := h
  refine ldM_1 dX4_term_30 b1 (fun g2 => ?_)
  refine a_iconst dX4_term_31 ?_
  refine a_icmp_le 45 g2 (rgk 1 (by decide)) (by decide) dX4_term_32 (fun c3 => ?_) (fun c3 => ?_)
  · have h := h.1 c3
    refine AW.pick [0, 1, 2, 3] rfl ?_
    exact s_X4_term_J45 Q M x1 x2 x3 e1 e2 e3 h
  · have h := h.2 c3
    refine a_aload_n 0 rfl dX4_term_35 ?_
    refine a_iload_n 3 rfl dX4_term_36 ?_
    refine kX4_111 (Nat.le_of_ble_eq_true rfl) (Nat.le_of_ble_eq_true rfl) dX4_term_37 (s_X4_isTerm e3 h) (fun r5 M4 g6 h => ?_)
    refine a_if_ne 45 g6 (by decide) dX4_term_40 (fun c7 => ?_) (fun c7 => ?_)
    · have h := h.1 c7
      refine AW.pick [0, 1, 2, 3] rfl ?_
      exact s_X4_term_J45 Q M4 x1 x2 x3 e1 e2 e3 h
    · have h := h.2 c7
      refine a_iconst dX4_term_43 ?_
      exact a_iret rfl dX4_term_44 (rgk (-1) (by decide)) h
set_option maxRecDepth 100000 in
theorem s_X4_term {l : Launch} {D : va_G} {ad : Nat → Nat} {cA : Nat → ClassId} {M : Mem} {x1 : Int} {x2 : Int} {x3 : Int} {Q : Int → Mem → Prop} (e1 : rg x1) (e2 : rg x2) (e3 : rg x3) (h : w_X4_term M x1 x2 x3 Q) : AM (xM l D ad cA) yX4_term mX4_term [.ref (ad 0), vi x1, vi x2, vi x3] M (qI Q) := by
  refine AM.ofAW (by decide +kernel) rfl (Nat.le_of_ble_eq_true rfl) ?_
  show AW (xM l D ad cA) mX4_term (qI Q) 0 [(0, .ref (ad 0)), (1, vi x1), (2, vi x2), (3, vi x3)] [] M
  refine a_aload_n 0 rfl dX4_term_0 ?_
  refine a_iload_n 1 rfl dX4_term_1 ?_
  refine kX4_107 (Nat.le_of_ble_eq_true rfl) (Nat.le_of_ble_eq_true rfl) dX4_term_2 (s_X4_isName e1 h) (fun r2 M1 g3 h => ?_)
  refine a_if_eq 43 g3 (by decide) dX4_term_5 (fun c4 => ?_) (fun c4 => ?_)
  · have h := h.1 c4
    refine a_iconst dX4_term_43 ?_
    exact a_iret rfl dX4_term_44 (rgk (-1) (by decide)) h
  · have h := h.2 c4
    refine a_aload_n 0 rfl dX4_term_8 ?_
    refine gfX4_7 dX4_term_9 ?_
    refine a_iload_n 1 rfl dX4_term_12 ?_
    obtain ⟨b5, h⟩ := h
    refine ldM_1 dX4_term_13 b5 (fun g6 => ?_)
    refine a_if_le 25 g6 (by decide) dX4_term_14 (fun c7 => ?_) (fun c7 => ?_)
    · have h := h.1 c7
      refine AW.pick [0, 1, 2, 3] rfl ?_
      exact s_X4_term_J25 Q M1 x1 x2 x3 e1 e2 e3 h
    · have h := h.2 c7
      refine a_aload_n 0 rfl dX4_term_17 ?_
      refine a_iload_n 2 rfl dX4_term_18 ?_
      refine kX4_111 (Nat.le_of_ble_eq_true rfl) (Nat.le_of_ble_eq_true rfl) dX4_term_19 (s_X4_isTerm e2 h) (fun r9 M8 g10 h => ?_)
      refine a_if_eq 43 g10 (by decide) dX4_term_22 (fun c11 => ?_) (fun c11 => ?_)
      · have h := h.1 c11
        refine a_iconst dX4_term_43 ?_
        exact a_iret rfl dX4_term_44 (rgk (-1) (by decide)) h
      · have h := h.2 c11
        refine AW.pick [0, 1, 2, 3] rfl ?_
        exact s_X4_term_J25 Q M8 x1 x2 x3 e1 e2 e3 h
set_option maxRecDepth 100000 in
theorem s_X4_goesThrough_L37 {l : Launch} {D : va_G} {ad : Nat → Nat} {cA : Nat → ClassId} (Q : Mem → Prop) (K27 : Mem → Int → Prop) (hK27 : ∀ (M : Mem) (x2 : Int), rg x2 → K27 M x2 → AW (xM l D ad cA) mX4_goesThrough (qV Q) 27 [(0, .ref (ad 0)), (2, vi x2)] [] M) : ∀ (n : Nat) (M : Mem) (x2 : Int) (x3 : Int), rg x2 → rg x3 → w_X4_goesThrough_L37 Q K27 n M x2 x3 → AW (xM l D ad cA) mX4_goesThrough (qV Q) 37 [(0, .ref (ad 0)), (2, vi x2), (3, vi x3)] [] M := by
  intro n
  induction n with
  | zero => intro M x2 x3 e2 e3 h; exact absurd h id
  | succ n ih =>
    intro M x2 x3 e2 e3 h
    refine a_iload_n 2 rfl dX4_goesThrough_37 ?_
    refine a_aload_n 0 rfl dX4_goesThrough_38 ?_
    refine a_aload_n 0 rfl dX4_goesThrough_39 ?_
    refine gfX4_29 dX4_goesThrough_40 ?_
    refine a_iload_n 1 rfl dX4_goesThrough_43 ?_
    obtain ⟨b1, h⟩ := h
    refine ldM_7 dX4_goesThrough_44 b1 (fun g2 => ?_)
    refine kX4_117 (Nat.le_of_ble_eq_true rfl) (Nat.le_of_ble_eq_true rfl) dX4_goesThrough_45 (s_X4_partsOf g2 h) (fun r4 M3 g5 h => ?_)
    refine a_icmp_ge 87 e3 g5 (by decide) dX4_goesThrough_48 (fun c6 => ?_) (fun c6 => ?_)
    · have h := h.1 c6
      obtain ⟨g7, h⟩ := h
      refine a_iinc (lv' := [(2, vi (x2 + 1)), (0, .ref (ad 0)), (3, vi x3)]) 1 rfl (Nat.le_of_ble_eq_true rfl) rfl dX4_goesThrough_87 ?_
      refine a_goto 27 (by decide) dX4_goesThrough_90 ?_
      refine AW.pick [1, 0] rfl ?_
      exact hK27 M3 (x2 + 1) g7 h
    · have h := h.2 c6
      refine a_aload_n 0 rfl dX4_goesThrough_51 ?_
      refine gfX4_29 dX4_goesThrough_52 ?_
      refine a_aload_n 0 rfl dX4_goesThrough_55 ?_
      refine gfX4_114 dX4_goesThrough_56 (fun g8 => ?_)
      refine a_aload_n 0 rfl dX4_goesThrough_59 ?_
      refine a_aload_n 0 rfl dX4_goesThrough_60 ?_
      refine gfX4_29 dX4_goesThrough_61 ?_
      refine a_iload_n 1 rfl dX4_goesThrough_64 ?_
      obtain ⟨b9, h⟩ := h
      refine ldM_7 dX4_goesThrough_65 b9 (fun g10 => ?_)
      refine a_iload_n 2 rfl dX4_goesThrough_66 ?_
      refine kX4_90 (Nat.le_of_ble_eq_true rfl) (Nat.le_of_ble_eq_true rfl) dX4_goesThrough_67 (s_X4_part g10 e3 h) (fun r12 M11 g13 h => ?_)
      obtain ⟨b14, h⟩ := h
      refine stM_7 dX4_goesThrough_70 b14 g13 ?_
      refine a_aload_n 0 rfl dX4_goesThrough_71 ?_
      refine a_dup rfl dX4_goesThrough_72 ?_
      refine gfX4_114 dX4_goesThrough_73 (fun g15 => ?_)
      refine a_iconst dX4_goesThrough_76 ?_
      obtain ⟨g16, h⟩ := h
      refine a_iadd dX4_goesThrough_77 ?_
      refine pfX4_114 dX4_goesThrough_78 g16 ?_
      obtain ⟨g17, h⟩ := h
      refine a_iinc (lv' := [(3, vi (x3 + 1)), (0, .ref (ad 0)), (2, vi x2)]) 2 rfl (Nat.le_of_ble_eq_true rfl) rfl dX4_goesThrough_81 ?_
      refine a_goto 37 (by decide) dX4_goesThrough_84 ?_
      refine AW.pick [1, 2, 0] rfl ?_
      exact ih (up (up M11 7 (M3 0 9) r12) 0 9 (((up M11 7 (M3 0 9) r12) 0 9) + 1)) x2 (x3 + 1) e2 g17 h
set_option maxRecDepth 100000 in
theorem s_X4_goesThrough_L27 {l : Launch} {D : va_G} {ad : Nat → Nat} {cA : Nat → ClassId} (Q : Mem → Prop) : ∀ (n : Nat) (M : Mem) (x2 : Int), rg x2 → w_X4_goesThrough_L27 Q n M x2 → AW (xM l D ad cA) mX4_goesThrough (qV Q) 27 [(0, .ref (ad 0)), (2, vi x2)] [] M := by
  intro n
  induction n with
  | zero => intro M x2 e2 h; exact absurd h id
  | succ n ih =>
    intro M x2 e2 h
    refine a_iload_n 1 rfl dX4_goesThrough_27 ?_
    refine a_aload_n 0 rfl dX4_goesThrough_28 ?_
    refine gfX4_114 dX4_goesThrough_29 (fun g1 => ?_)
    refine a_icmp_ge 93 e2 g1 (by decide) dX4_goesThrough_32 (fun c2 => ?_) (fun c2 => ?_)
    · have h := h.1 c2
      exact a_vret rfl dX4_goesThrough_93 h
    · have h := h.2 c2
      refine a_iconst dX4_goesThrough_35 ?_
      refine a_istore_n (lv' := [(3, vi 0), (0, .ref (ad 0)), (2, vi x2)]) (Nat.le_of_ble_eq_true rfl) rfl dX4_goesThrough_36 ?_
      obtain ⟨n37, h⟩ := h
      refine AW.pick [1, 2, 0] rfl ?_
      exact s_X4_goesThrough_L37 Q (w_X4_goesThrough_L27 Q n) ih n37 M x2 0 e2 (rgk 0 (by decide)) h
set_option maxRecDepth 100000 in
theorem s_X4_goesThrough {l : Launch} {D : va_G} {ad : Nat → Nat} {cA : Nat → ClassId} {M : Mem} {x1 : Int} {Q : Mem → Prop} (e1 : rg x1) (h : w_X4_goesThrough M x1 Q) : AM (xM l D ad cA) yX4_goesThrough mX4_goesThrough [.ref (ad 0), vi x1] M (qV Q) := by
  refine AM.ofAW (by decide +kernel) rfl (Nat.le_of_ble_eq_true rfl) ?_
  show AW (xM l D ad cA) mX4_goesThrough (qV Q) 0 [(0, .ref (ad 0)), (1, vi x1)] [] M
  refine a_aload_n 0 rfl dX4_goesThrough_0 ?_
  refine a_iconst dX4_goesThrough_1 ?_
  refine pfX4_114 dX4_goesThrough_2 (rgk 0 (by decide)) ?_
  refine a_aload_n 0 rfl dX4_goesThrough_5 ?_
  refine gfX4_29 dX4_goesThrough_6 ?_
  refine a_aload_n 0 rfl dX4_goesThrough_9 ?_
  refine gfX4_114 dX4_goesThrough_10 (fun g1 => ?_)
  refine a_iload_n 1 rfl dX4_goesThrough_13 ?_
  obtain ⟨b2, h⟩ := h
  refine stM_7 dX4_goesThrough_14 b2 e1 ?_
  refine a_aload_n 0 rfl dX4_goesThrough_15 ?_
  refine a_dup rfl dX4_goesThrough_16 ?_
  refine gfX4_114 dX4_goesThrough_17 (fun g3 => ?_)
  refine a_iconst dX4_goesThrough_20 ?_
  obtain ⟨g4, h⟩ := h
  refine a_iadd dX4_goesThrough_21 ?_
  refine pfX4_114 dX4_goesThrough_22 g4 ?_
  refine a_iconst dX4_goesThrough_25 ?_
  refine a_istore_n (lv' := [(2, vi 0), (0, .ref (ad 0)), (1, vi x1)]) (Nat.le_of_ble_eq_true rfl) rfl dX4_goesThrough_26 ?_
  obtain ⟨n27, h⟩ := h
  refine AW.pick [1, 0] rfl ?_
  exact s_X4_goesThrough_L27 Q n27 (up (up (up M 0 9 0) 7 ((up M 0 9 0) 0 9) x1) 0 9 (((up (up M 0 9 0) 7 ((up M 0 9 0) 0 9) x1) 0 9) + 1)) 0 (rgk 0 (by decide)) h
set_option maxRecDepth 100000 in
theorem s_X4_mayDefine_L7 {l : Launch} {D : va_G} {ad : Nat → Nat} {cA : Nat → ClassId} (Q : Int → Mem → Prop) : ∀ (n : Nat) (M : Mem) (x1 : Int) (x3 : Int), rg x1 → rg x3 → w_X4_mayDefine_L7 Q n M x1 x3 → AW (xM l D ad cA) mX4_mayDefine (qI Q) 7 [(0, .ref (ad 0)), (1, vi x1), (3, vi x3)] [] M := by
  intro n
  induction n with
  | zero => intro M x1 x3 e1 e3 h; exact absurd h id
  | succ n ih =>
    intro M x1 x3 e1 e3 h
    refine a_iload_n 2 rfl dX4_mayDefine_7 ?_
    refine a_aload_n 0 rfl dX4_mayDefine_8 ?_
    refine gfX4_114 dX4_mayDefine_9 (fun g1 => ?_)
    refine a_icmp_ge 66 e3 g1 (by decide) dX4_mayDefine_12 (fun c2 => ?_) (fun c2 => ?_)
    · have h := h.1 c2
      refine a_iconst dX4_mayDefine_66 ?_
      exact a_zret rfl dX4_mayDefine_67 (Or.inr rfl) h
    · have h := h.2 c2
      refine a_aload_n 0 rfl dX4_mayDefine_15 ?_
      refine gfX4_20 dX4_mayDefine_16 ?_
      refine a_aload_n 0 rfl dX4_mayDefine_19 ?_
      refine gfX4_29 dX4_mayDefine_20 ?_
      refine a_iload_n 2 rfl dX4_mayDefine_23 ?_
      obtain ⟨b3, h⟩ := h
      refine ldM_7 dX4_mayDefine_24 b3 (fun g4 => ?_)
      obtain ⟨b5, h⟩ := h
      refine ldM_4 dX4_mayDefine_25 b5 (fun g6 => ?_)
      refine a_istore (lv' := [(4, vi (M 4 (M 7 x3))), (0, .ref (ad 0)), (1, vi x1), (3, vi x3)]) (Nat.le_of_ble_eq_true rfl) rfl dX4_mayDefine_26 ?_
      refine a_iload 0 rfl dX4_mayDefine_28 ?_
      refine a_bipush (by decide) dX4_mayDefine_30 ?_
      refine a_icmp_ge 44 g6 (rgk 100 (by decide)) (by decide) dX4_mayDefine_32 (fun c7 => ?_) (fun c7 => ?_)
      · have h := h.1 c7
        refine a_iload 0 rfl dX4_mayDefine_44 ?_
        refine a_bipush (by decide) dX4_mayDefine_46 ?_
        obtain ⟨g8, h⟩ := h
        refine a_isub dX4_mayDefine_48 ?_
        refine a_aload_n 1 rfl dX4_mayDefine_49 ?_
        refine gfX4_7 dX4_mayDefine_50 ?_
        refine a_iload_n 2 rfl dX4_mayDefine_53 ?_
        obtain ⟨b9, h⟩ := h
        refine ldM_1 dX4_mayDefine_54 b9 (fun g10 => ?_)
        refine a_icmp_lt 60 g8 g10 (by decide) dX4_mayDefine_55 (fun c11 => ?_) (fun c11 => ?_)
        · have h := h.1 c11
          obtain ⟨g12, h⟩ := h
          refine a_iinc (lv' := [(3, vi (x3 + 1)), (4, vi (M 4 (M 7 x3))), (0, .ref (ad 0)), (1, vi x1)]) 3 rfl (Nat.le_of_ble_eq_true rfl) rfl dX4_mayDefine_60 ?_
          refine a_goto 7 (by decide) dX4_mayDefine_63 ?_
          refine AW.pick [2, 3, 0] rfl ?_
          exact ih M x1 (x3 + 1) e1 g12 h
        · have h := h.2 c11
          refine a_iconst dX4_mayDefine_58 ?_
          exact a_zret rfl dX4_mayDefine_59 (Or.inl rfl) h
      · have h := h.2 c7
        refine a_iload 0 rfl dX4_mayDefine_35 ?_
        refine a_iload_n 2 rfl dX4_mayDefine_37 ?_
        refine a_icmp_lt 60 g6 e1 (by decide) dX4_mayDefine_38 (fun c13 => ?_) (fun c13 => ?_)
        · have h := h.1 c13
          obtain ⟨g14, h⟩ := h
          refine a_iinc (lv' := [(3, vi (x3 + 1)), (4, vi (M 4 (M 7 x3))), (0, .ref (ad 0)), (1, vi x1)]) 3 rfl (Nat.le_of_ble_eq_true rfl) rfl dX4_mayDefine_60 ?_
          refine a_goto 7 (by decide) dX4_mayDefine_63 ?_
          refine AW.pick [2, 3, 0] rfl ?_
          exact ih M x1 (x3 + 1) e1 g14 h
        · have h := h.2 c13
          refine a_goto 58 (by decide) dX4_mayDefine_41 ?_
          refine a_iconst dX4_mayDefine_58 ?_
          exact a_zret rfl dX4_mayDefine_59 (Or.inl rfl) h
set_option maxRecDepth 100000 in
theorem s_X4_mayDefine {l : Launch} {D : va_G} {ad : Nat → Nat} {cA : Nat → ClassId} {M : Mem} {x1 : Int} {x2 : Int} {Q : Int → Mem → Prop} (e1 : rg x1) (e2 : rg x2) (h : w_X4_mayDefine M x1 x2 Q) : AM (xM l D ad cA) yX4_mayDefine mX4_mayDefine [.ref (ad 0), vi x1, vi x2] M (qI Q) := by
  refine AM.ofAW (by decide +kernel) rfl (Nat.le_of_ble_eq_true rfl) ?_
  show AW (xM l D ad cA) mX4_mayDefine (qI Q) 0 [(0, .ref (ad 0)), (1, vi x1), (2, vi x2)] [] M
  refine a_aload_n 0 rfl dX4_mayDefine_0 ?_
  refine a_iload_n 2 rfl dX4_mayDefine_1 ?_
  refine kX4_121 (Nat.le_of_ble_eq_true rfl) (Nat.le_of_ble_eq_true rfl) dX4_mayDefine_2 (s_X4_goesThrough e2 h) (fun M1 h => ?_)
  refine a_iconst dX4_mayDefine_5 ?_
  refine a_istore_n (lv' := [(3, vi 0), (0, .ref (ad 0)), (1, vi x1), (2, vi x2)]) (Nat.le_of_ble_eq_true rfl) rfl dX4_mayDefine_6 ?_
  obtain ⟨n7, h⟩ := h
  refine AW.pick [1, 2, 0] rfl ?_
  exact s_X4_mayDefine_L7 Q n7 M1 x1 0 e1 (rgk 0 (by decide)) h
set_option maxRecDepth 100000 in
theorem s_X4_isClosed_L7 {l : Launch} {D : va_G} {ad : Nat → Nat} {cA : Nat → ClassId} (Q : Int → Mem → Prop) : ∀ (n : Nat) (M : Mem) (x2 : Int), rg x2 → w_X4_isClosed_L7 Q n M x2 → AW (xM l D ad cA) mX4_isClosed (qI Q) 7 [(0, .ref (ad 0)), (2, vi x2)] [] M := by
  intro n
  induction n with
  | zero => intro M x2 e2 h; exact absurd h id
  | succ n ih =>
    intro M x2 e2 h
    refine a_iload_n 1 rfl dX4_isClosed_7 ?_
    refine a_aload_n 0 rfl dX4_isClosed_8 ?_
    refine gfX4_114 dX4_isClosed_9 (fun g1 => ?_)
    refine a_icmp_ge 39 e2 g1 (by decide) dX4_isClosed_12 (fun c2 => ?_) (fun c2 => ?_)
    · have h := h.1 c2
      refine a_iconst dX4_isClosed_39 ?_
      exact a_zret rfl dX4_isClosed_40 (Or.inr rfl) h
    · have h := h.2 c2
      refine a_aload_n 0 rfl dX4_isClosed_15 ?_
      refine gfX4_20 dX4_isClosed_16 ?_
      refine a_aload_n 0 rfl dX4_isClosed_19 ?_
      refine gfX4_29 dX4_isClosed_20 ?_
      refine a_iload_n 1 rfl dX4_isClosed_23 ?_
      obtain ⟨b3, h⟩ := h
      refine ldM_7 dX4_isClosed_24 b3 (fun g4 => ?_)
      obtain ⟨b5, h⟩ := h
      refine ldM_4 dX4_isClosed_25 b5 (fun g6 => ?_)
      refine a_bipush (by decide) dX4_isClosed_26 ?_
      refine a_icmp_lt 33 g6 (rgk 100 (by decide)) (by decide) dX4_isClosed_28 (fun c7 => ?_) (fun c7 => ?_)
      · have h := h.1 c7
        obtain ⟨g8, h⟩ := h
        refine a_iinc (lv' := [(2, vi (x2 + 1)), (0, .ref (ad 0))]) 1 rfl (Nat.le_of_ble_eq_true rfl) rfl dX4_isClosed_33 ?_
        refine a_goto 7 (by decide) dX4_isClosed_36 ?_
        refine AW.pick [1, 0] rfl ?_
        exact ih M (x2 + 1) g8 h
      · have h := h.2 c7
        refine a_iconst dX4_isClosed_31 ?_
        exact a_zret rfl dX4_isClosed_32 (Or.inl rfl) h
set_option maxRecDepth 100000 in
theorem s_X4_isClosed {l : Launch} {D : va_G} {ad : Nat → Nat} {cA : Nat → ClassId} {M : Mem} {x1 : Int} {Q : Int → Mem → Prop} (e1 : rg x1) (h : w_X4_isClosed M x1 Q) : AM (xM l D ad cA) yX4_isClosed mX4_isClosed [.ref (ad 0), vi x1] M (qI Q) := by
  refine AM.ofAW (by decide +kernel) rfl (Nat.le_of_ble_eq_true rfl) ?_
  show AW (xM l D ad cA) mX4_isClosed (qI Q) 0 [(0, .ref (ad 0)), (1, vi x1)] [] M
  refine a_aload_n 0 rfl dX4_isClosed_0 ?_
  refine a_iload_n 1 rfl dX4_isClosed_1 ?_
  refine kX4_121 (Nat.le_of_ble_eq_true rfl) (Nat.le_of_ble_eq_true rfl) dX4_isClosed_2 (s_X4_goesThrough e1 h) (fun M1 h => ?_)
  refine a_iconst dX4_isClosed_5 ?_
  refine a_istore_n (lv' := [(2, vi 0), (0, .ref (ad 0)), (1, vi x1)]) (Nat.le_of_ble_eq_true rfl) rfl dX4_isClosed_6 ?_
  obtain ⟨n7, h⟩ := h
  refine AW.pick [1, 0] rfl ?_
  exact s_X4_isClosed_L7 Q n7 M1 0 (rgk 0 (by decide)) h
set_option maxRecDepth 100000 in
theorem s_X4_define_J42 {l : Launch} {D : va_G} {ad : Nat → Nat} {cA : Nat → ClassId} (Q : Int → Mem → Prop) (M : Mem) (x1 : Int) (x2 : Int) (e1 : rg x1) (e2 : rg x2) (h : w_X4_define_J42 Q M x1 x2) : AW (xM l D ad cA) mX4_define (qI Q) 42 [(0, .ref (ad 0)), (1, vi x1), (2, vi x2)] [] M := by
  refine a_aload_n 0 rfl dX4_define_42 ?_
  refine gfX4_13 dX4_define_43 ?_
  refine a_iload_n 1 rfl dX4_define_46 ?_
  obtain ⟨b1, h⟩ := h
  refine ldM_2 dX4_define_47 b1 (fun g2 => ?_)
  refine a_istore_n (lv' := [(3, vi (M 2 x1)), (0, .ref (ad 0)), (1, vi x1), (2, vi x2)]) (Nat.le_of_ble_eq_true rfl) rfl dX4_define_48 ?_
  refine a_aload_n 1 rfl dX4_define_49 ?_
  refine gfX4_13 dX4_define_50 ?_
  refine a_iload_n 2 rfl dX4_define_53 ?_
  refine a_iload_n 3 rfl dX4_define_54 ?_
  obtain ⟨b3, h⟩ := h
  refine stM_2 dX4_define_55 b3 e2 ?_
  refine a_iload_n 0 rfl dX4_define_56 ?_
  exact a_iret rfl dX4_define_57 g2 h
set_option maxRecDepth 100000 in
theorem s_X4_define_J24 {l : Launch} {D : va_G} {ad : Nat → Nat} {cA : Nat → ClassId} (Q : Int → Mem → Prop) (M : Mem) (x1 : Int) (x2 : Int) (e1 : rg x1) (e2 : rg x2) (h : w_X4_define_J24 Q M x1 x2) : AW (xM l D ad cA) mX4_define (qI Q) 24 [(0, .ref (ad 0)), (1, vi x1), (2, vi x2)] [] M := by
  refine a_iload_n 2 rfl dX4_define_24 ?_
  refine a_bipush (by decide) dX4_define_25 ?_
  refine a_icmp_eq 42 e2 (rgk (-9) (by decide)) (by decide) dX4_define_27 (fun c1 => ?_) (fun c1 => ?_)
  · have h := h.1 c1
    refine AW.pick [0, 1, 2] rfl ?_
    exact s_X4_define_J42 Q M x1 x2 e1 e2 h
  · have h := h.2 c1
    refine a_aload_n 0 rfl dX4_define_30 ?_
    refine a_iload_n 1 rfl dX4_define_31 ?_
    refine a_iload_n 2 rfl dX4_define_32 ?_
    refine kX4_125 (Nat.le_of_ble_eq_true rfl) (Nat.le_of_ble_eq_true rfl) dX4_define_33 (s_X4_mayDefine e1 e2 h) (fun r3 M2 g4 h => ?_)
    refine a_if_ne 42 g4 (by decide) dX4_define_36 (fun c5 => ?_) (fun c5 => ?_)
    · have h := h.1 c5
      refine AW.pick [0, 1, 2] rfl ?_
      exact s_X4_define_J42 Q M2 x1 x2 e1 e2 h
    · have h := h.2 c5
      refine a_bipush (by decide) dX4_define_39 ?_
      exact a_iret rfl dX4_define_41 (rgk (-3) (by decide)) h
set_option maxRecDepth 100000 in
theorem s_X4_define {l : Launch} {D : va_G} {ad : Nat → Nat} {cA : Nat → ClassId} {M : Mem} {x1 : Int} {x2 : Int} {Q : Int → Mem → Prop} (e1 : rg x1) (e2 : rg x2) (h : w_X4_define M x1 x2 Q) : AM (xM l D ad cA) yX4_define mX4_define [.ref (ad 0), vi x1, vi x2] M (qI Q) := by
  refine AM.ofAW (by decide +kernel) rfl (Nat.le_of_ble_eq_true rfl) ?_
  show AW (xM l D ad cA) mX4_define (qI Q) 0 [(0, .ref (ad 0)), (1, vi x1), (2, vi x2)] [] M
  refine a_aload_n 0 rfl dX4_define_0 ?_
  refine a_iload_n 1 rfl dX4_define_1 ?_
  refine kX4_107 (Nat.le_of_ble_eq_true rfl) (Nat.le_of_ble_eq_true rfl) dX4_define_2 (s_X4_isName e1 h) (fun r2 M1 g3 h => ?_)
  refine a_if_eq 22 g3 (by decide) dX4_define_5 (fun c4 => ?_) (fun c4 => ?_)
  · have h := h.1 c4
    refine a_iconst dX4_define_22 ?_
    exact a_iret rfl dX4_define_23 (rgk (-1) (by decide)) h
  · have h := h.2 c4
    refine a_iload_n 2 rfl dX4_define_8 ?_
    refine a_bipush (by decide) dX4_define_9 ?_
    refine a_icmp_eq 24 e2 (rgk (-9) (by decide)) (by decide) dX4_define_11 (fun c5 => ?_) (fun c5 => ?_)
    · have h := h.1 c5
      refine AW.pick [0, 1, 2] rfl ?_
      exact s_X4_define_J24 Q M1 x1 x2 e1 e2 h
    · have h := h.2 c5
      refine a_aload_n 0 rfl dX4_define_14 ?_
      refine a_iload_n 2 rfl dX4_define_15 ?_
      refine kX4_111 (Nat.le_of_ble_eq_true rfl) (Nat.le_of_ble_eq_true rfl) dX4_define_16 (s_X4_isTerm e2 h) (fun r7 M6 g8 h => ?_)
      refine a_if_ne 24 g8 (by decide) dX4_define_19 (fun c9 => ?_) (fun c9 => ?_)
      · have h := h.1 c9
        refine AW.pick [0, 1, 2] rfl ?_
        exact s_X4_define_J24 Q M6 x1 x2 e1 e2 h
      · have h := h.2 c9
        refine a_iconst dX4_define_22 ?_
        exact a_iret rfl dX4_define_23 (rgk (-1) (by decide)) h
set_option maxRecDepth 100000 in
theorem s_X4_opaque {l : Launch} {D : va_G} {ad : Nat → Nat} {cA : Nat → ClassId} {M : Mem} {x1 : Int} {x2 : Int} {Q : Int → Mem → Prop} (e1 : rg x1) (e2 : rg x2) (h : w_X4_opaque M x1 x2 Q) : AM (xM l D ad cA) yX4_opaque mX4_opaque [.ref (ad 0), vi x1, vi x2] M (qI Q) := by
  refine AM.ofAW (by decide +kernel) rfl (Nat.le_of_ble_eq_true rfl) ?_
  show AW (xM l D ad cA) mX4_opaque (qI Q) 0 [(0, .ref (ad 0)), (1, vi x1), (2, vi x2)] [] M
  refine a_aload_n 0 rfl dX4_opaque_0 ?_
  refine a_iload_n 1 rfl dX4_opaque_1 ?_
  refine kX4_107 (Nat.le_of_ble_eq_true rfl) (Nat.le_of_ble_eq_true rfl) dX4_opaque_2 (s_X4_isName e1 h) (fun r2 M1 g3 h => ?_)
  refine a_if_ne 10 g3 (by decide) dX4_opaque_5 (fun c4 => ?_) (fun c4 => ?_)
  · have h := h.1 c4
    refine a_aload_n 0 rfl dX4_opaque_10 ?_
    refine gfX4_16 dX4_opaque_11 ?_
    refine a_iload_n 1 rfl dX4_opaque_14 ?_
    obtain ⟨b5, h⟩ := h
    refine ldM_3 dX4_opaque_15 b5 (fun g6 => ?_)
    refine a_iload_n 2 rfl dX4_opaque_16 ?_
    refine a_icmp_ne 22 g6 e2 (by decide) dX4_opaque_17 (fun c7 => ?_) (fun c7 => ?_)
    · have h := h.1 c7
      refine a_aload_n 0 rfl dX4_opaque_22 ?_
      refine gfX4_16 dX4_opaque_23 ?_
      refine a_iload_n 1 rfl dX4_opaque_26 ?_
      refine a_iload_n 2 rfl dX4_opaque_27 ?_
      obtain ⟨z9, h⟩ := h
      obtain ⟨b8, h⟩ := h
      refine stM_3 dX4_opaque_28 b8 z9 ?_
      refine a_iconst dX4_opaque_29 ?_
      exact a_iret rfl dX4_opaque_30 (rgk 1 (by decide)) h
    · have h := h.2 c7
      refine a_iconst dX4_opaque_20 ?_
      exact a_iret rfl dX4_opaque_21 (rgk 0 (by decide)) h
  · have h := h.2 c4
    refine a_iconst dX4_opaque_8 ?_
    exact a_iret rfl dX4_opaque_9 (rgk (-1) (by decide)) h
set_option maxRecDepth 100000 in
theorem s_X4_atMost {l : Launch} {D : va_G} {ad : Nat → Nat} {cA : Nat → ClassId} {M : Mem} {x0 : Int} {Q : Int → Mem → Prop} (e0 : rl x0) (h : w_X4_atMost M x0 Q) : AM (xM l D ad cA) yX4_atMost mX4_atMost [vl x0] M (qL Q) := by
  refine AM.ofAW (by decide +kernel) rfl (Nat.le_of_ble_eq_true rfl) ?_
  show AW (xM l D ad cA) mX4_atMost (qL Q) 0 [(0, vl x0)] [] M
  refine a_lload_n 0 rfl dX4_atMost_0 ?_
  refine a_ldc2 (n := 1000000000000000) (v := 1000000000000000) (gtb_in (by decide +kernel) rfl) rfl dX4_atMost_1 ?_
  refine a_lcmp e0 (rlk 1000000000000000 (by decide)) dX4_atMost_4 ?_
  refine a_if_ge 12 (rg_lcm _ _) (by decide) dX4_atMost_5 (fun c1 => ?_) (fun c1 => ?_)
  · have h := h.1 c1
    refine a_ldc2 (n := 1000000000000000) (v := 1000000000000000) (gtb_in (by decide +kernel) rfl) rfl dX4_atMost_12 ?_
    exact a_lret rfl dX4_atMost_15 (rlk 1000000000000000 (by decide)) h
  · have h := h.2 c1
    refine a_lload_n 0 rfl dX4_atMost_8 ?_
    refine a_goto 15 (by decide) dX4_atMost_9 ?_
    exact a_lret rfl dX4_atMost_15 e0 h
set_option maxRecDepth 100000 in
theorem s_X4_times_J22 {l : Launch} {D : va_G} {ad : Nat → Nat} {cA : Nat → ClassId} (Q : Int → Mem → Prop) (M : Mem) (x0 : Int) (x2 : Int) (e0 : rl x0) (e2 : rl x2) (h : w_X4_times_J22 Q M x0 x2) : AW (xM l D ad cA) mX4_times (qL Q) 22 [(0, vl x0), (2, vl x2)] [] M := by
  refine a_lload_n 0 rfl dX4_times_22 ?_
  refine a_lload_n 1 rfl dX4_times_23 ?_
  obtain ⟨g1, h⟩ := h
  refine a_lmul dX4_times_24 ?_
  refine kX4_131 (Nat.le_of_ble_eq_true rfl) (Nat.le_of_ble_eq_true rfl) dX4_times_25 (s_X4_atMost g1 h) (fun r3 M2 g4 h => ?_)
  exact a_lret rfl dX4_times_28 g4 h
set_option maxRecDepth 100000 in
theorem s_X4_times {l : Launch} {D : va_G} {ad : Nat → Nat} {cA : Nat → ClassId} {M : Mem} {x0 : Int} {x2 : Int} {Q : Int → Mem → Prop} (e0 : rl x0) (e2 : rl x2) (h : w_X4_times M x0 x2 Q) : AM (xM l D ad cA) yX4_times mX4_times [vl x0, vl x2] M (qL Q) := by
  refine AM.ofAW (by decide +kernel) rfl (Nat.le_of_ble_eq_true rfl) ?_
  show AW (xM l D ad cA) mX4_times (qL Q) 0 [(0, vl x0), (2, vl x2)] [] M
  refine a_lload_n 0 rfl dX4_times_0 ?_
  refine a_lconst (v := 0) rfl dX4_times_1 ?_
  refine a_lcmp e0 (rlk 0 (by decide)) dX4_times_2 ?_
  refine a_if_le 22 (rg_lcm _ _) (by decide) dX4_times_3 (fun c1 => ?_) (fun c1 => ?_)
  · have h := h.1 c1
    refine AW.pick [0, 1] rfl ?_
    exact s_X4_times_J22 Q M x0 x2 e0 e2 h
  · have h := h.2 c1
    refine a_lload_n 1 rfl dX4_times_6 ?_
    refine a_ldc2 (n := 1000000000000000) (v := 1000000000000000) (gtb_in (by decide +kernel) rfl) rfl dX4_times_7 ?_
    refine a_lload_n 0 rfl dX4_times_10 ?_
    obtain ⟨g3, g2, h⟩ := h
    refine a_ldiv (rlk 1000000000000000 (by decide)) e0 g3 dX4_times_11 ?_
    refine a_lcmp e2 g2 dX4_times_12 ?_
    refine a_if_le 22 (rg_lcm _ _) (by decide) dX4_times_13 (fun c4 => ?_) (fun c4 => ?_)
    · have h := h.1 c4
      refine AW.pick [0, 1] rfl ?_
      exact s_X4_times_J22 Q M x0 x2 e0 e2 h
    · have h := h.2 c4
      refine a_ldc2 (n := 1000000000000000) (v := 1000000000000000) (gtb_in (by decide +kernel) rfl) rfl dX4_times_16 ?_
      refine a_goto 28 (by decide) dX4_times_19 ?_
      exact a_lret rfl dX4_times_28 (rlk 1000000000000000 (by decide)) h
set_option maxRecDepth 100000 in
theorem s_X4_weighs_J45 {l : Launch} {D : va_G} {ad : Nat → Nat} {cA : Nat → ClassId} (Q : Mem → Prop) (M : Mem) (x1 : Int) (x2 : Int) (y1 : Int) (y2 : Int) (e1 : rg x1) (e2 : rg x2) (f1 : rg y1) (f2 : rl y2) (h : w_X4_weighs_J45 Q M x1 x2 y1 y2) : AW (xM l D ad cA) mX4_weighs (qV Q) 45 [(0, .ref (ad 0)), (1, vi x1), (2, vi x2)] [vl y2, vi y1, .ref (ad 14)] M := by
  obtain ⟨b1, h⟩ := h
  refine stM_14 dX4_weighs_45 b1 f2 ?_
  refine a_aload_n 0 rfl dX4_weighs_46 ?_
  refine gfX4_51 dX4_weighs_47 ?_
  refine a_iconst dX4_weighs_50 ?_
  refine a_iload_n 1 rfl dX4_weighs_51 ?_
  obtain ⟨g2, h⟩ := h
  refine a_imul dX4_weighs_52 ?_
  refine a_iconst dX4_weighs_53 ?_
  obtain ⟨g3, h⟩ := h
  refine a_iadd dX4_weighs_54 ?_
  refine a_iload_n 2 rfl dX4_weighs_55 ?_
  refine a_bipush (by decide) dX4_weighs_56 ?_
  refine a_icmp_ne 65 e2 (rgk 101 (by decide)) (by decide) dX4_weighs_58 (fun c4 => ?_) (fun c4 => ?_)
  · have h := h.1 c4
    refine a_lconst (v := 0) rfl dX4_weighs_65 ?_
    obtain ⟨b5, h⟩ := h
    refine stM_14 dX4_weighs_66 b5 (rlk 0 (by decide)) ?_
    exact a_vret rfl dX4_weighs_67 h
  · have h := h.2 c4
    refine a_lconst (v := 1) rfl dX4_weighs_61 ?_
    refine a_goto 66 (by decide) dX4_weighs_62 ?_
    obtain ⟨b6, h⟩ := h
    refine stM_14 dX4_weighs_66 b6 (rlk 1 (by decide)) ?_
    exact a_vret rfl dX4_weighs_67 h
set_option maxRecDepth 100000 in
theorem s_X4_weighs_L92 {l : Launch} {D : va_G} {ad : Nat → Nat} {cA : Nat → ClassId} (Q : Mem → Prop) : ∀ (n : Nat) (M : Mem) (x1 : Int) (x2 : Int) (x3 : Int) (x5 : Int) (x7 : Int) (x9 : Int) (x11 : Int), rg x1 → rg x2 → rl x3 → rl x5 → rl x7 → rl x9 → rg x11 → w_X4_weighs_L92 Q n M x1 x2 x3 x5 x7 x9 x11 → AW (xM l D ad cA) mX4_weighs (qV Q) 92 [(0, .ref (ad 0)), (1, vi x1), (2, vi x2), (3, vl x3), (5, vl x5), (7, vl x7), (9, vl x9), (11, vi x11)] [] M := by
  intro n
  induction n with
  | zero => intro M x1 x2 x3 x5 x7 x9 x11 e1 e2 e3 e5 e7 e9 e11 h; exact absurd h id
  | succ n ih =>
    intro M x1 x2 x3 x5 x7 x9 x11 e1 e2 e3 e5 e7 e9 e11 h
    refine a_iload 7 rfl dX4_weighs_92 ?_
    refine a_aload_n 0 rfl dX4_weighs_94 ?_
    refine gfX4_7 dX4_weighs_95 ?_
    refine a_iload_n 2 rfl dX4_weighs_98 ?_
    obtain ⟨b1, h⟩ := h
    refine ldM_1 dX4_weighs_99 b1 (fun g2 => ?_)
    refine a_icmp_ge 215 e11 g2 (by decide) dX4_weighs_100 (fun c3 => ?_) (fun c3 => ?_)
    · have h := h.1 c3
      refine a_aload_n 0 rfl dX4_weighs_215 ?_
      refine gfX4_48 dX4_weighs_216 ?_
      refine a_iload_n 1 rfl dX4_weighs_219 ?_
      refine a_lload_n 3 rfl dX4_weighs_220 ?_
      obtain ⟨b4, h⟩ := h
      refine stM_13 dX4_weighs_221 b4 e3 ?_
      refine a_aload_n 0 rfl dX4_weighs_222 ?_
      refine gfX4_54 dX4_weighs_223 ?_
      refine a_iload_n 1 rfl dX4_weighs_226 ?_
      refine a_lload 4 rfl dX4_weighs_227 ?_
      obtain ⟨b5, h⟩ := h
      refine stM_15 dX4_weighs_229 b5 e5 ?_
      refine a_aload_n 0 rfl dX4_weighs_230 ?_
      refine gfX4_51 dX4_weighs_231 ?_
      refine a_iconst dX4_weighs_234 ?_
      refine a_iload_n 1 rfl dX4_weighs_235 ?_
      obtain ⟨g6, h⟩ := h
      refine a_imul dX4_weighs_236 ?_
      refine a_lload 5 rfl dX4_weighs_237 ?_
      obtain ⟨b7, h⟩ := h
      refine stM_14 dX4_weighs_239 b7 e7 ?_
      refine a_aload_n 0 rfl dX4_weighs_240 ?_
      refine gfX4_51 dX4_weighs_241 ?_
      refine a_iconst dX4_weighs_244 ?_
      refine a_iload_n 1 rfl dX4_weighs_245 ?_
      obtain ⟨g8, h⟩ := h
      refine a_imul dX4_weighs_246 ?_
      refine a_iconst dX4_weighs_247 ?_
      obtain ⟨g9, h⟩ := h
      refine a_iadd dX4_weighs_248 ?_
      refine a_lload 6 rfl dX4_weighs_249 ?_
      obtain ⟨b10, h⟩ := h
      refine stM_14 dX4_weighs_251 b10 e9 ?_
      exact a_vret rfl dX4_weighs_252 h
    · have h := h.2 c3
      refine a_aload_n 0 rfl dX4_weighs_103 ?_
      refine gfX4_39 dX4_weighs_104 ?_
      refine a_iconst dX4_weighs_107 ?_
      refine a_iload_n 2 rfl dX4_weighs_108 ?_
      obtain ⟨g11, h⟩ := h
      refine a_imul dX4_weighs_109 ?_
      refine a_iload 7 rfl dX4_weighs_110 ?_
      obtain ⟨g12, h⟩ := h
      refine a_iadd dX4_weighs_112 ?_
      obtain ⟨b13, h⟩ := h
      refine ldM_10 dX4_weighs_113 b13 (fun g14 => ?_)
      refine a_lstore (lv' := [(12, vl (M 10 ((2 * x2) + x11))), (0, .ref (ad 0)), (1, vi x1), (2, vi x2), (3, vl x3), (5, vl x5), (7, vl x7), (9, vl x9), (11, vi x11)]) (Nat.le_of_ble_eq_true rfl) rfl dX4_weighs_114 ?_
      refine a_aload_n 1 rfl dX4_weighs_116 ?_
      refine a_iload_n 2 rfl dX4_weighs_117 ?_
      refine a_iload 8 rfl dX4_weighs_118 ?_
      refine kX4_90 (Nat.le_of_ble_eq_true rfl) (Nat.le_of_ble_eq_true rfl) dX4_weighs_120 (s_X4_part e1 e11 h) (fun r16 M15 g17 h => ?_)
      refine a_istore (lv' := [(14, vi r16), (12, vl (M 10 ((2 * x2) + x11))), (0, .ref (ad 0)), (1, vi x1), (2, vi x2), (3, vl x3), (5, vl x5), (7, vl x7), (9, vl x9), (11, vi x11)]) (Nat.le_of_ble_eq_true rfl) rfl dX4_weighs_123 ?_
      refine a_lload_n 5 rfl dX4_weighs_125 ?_
      refine a_lload 1 rfl dX4_weighs_126 ?_
      refine a_aload_n 2 rfl dX4_weighs_128 ?_
      refine gfX4_48 dX4_weighs_129 ?_
      refine a_iload 0 rfl dX4_weighs_132 ?_
      obtain ⟨b18, h⟩ := h
      refine ldM_13 dX4_weighs_134 b18 (fun g19 => ?_)
      refine kX4_135 (Nat.le_of_ble_eq_true rfl) (Nat.le_of_ble_eq_true rfl) dX4_weighs_135 (s_X4_times g14 g19 h) (fun r21 M20 g22 h => ?_)
      obtain ⟨g23, h⟩ := h
      refine a_ladd dX4_weighs_138 ?_
      refine kX4_131 (Nat.le_of_ble_eq_true rfl) (Nat.le_of_ble_eq_true rfl) dX4_weighs_139 (s_X4_atMost g23 h) (fun r25 M24 g26 h => ?_)
      refine a_lstore_n (lv' := [(3, vl r25), (14, vi r16), (12, vl (M 10 ((2 * x2) + x11))), (0, .ref (ad 0)), (1, vi x1), (2, vi x2), (5, vl x5), (7, vl x7), (9, vl x9), (11, vi x11)]) (Nat.le_of_ble_eq_true rfl) rfl dX4_weighs_142 ?_
      refine a_lload 6 rfl dX4_weighs_143 ?_
      refine a_lload 2 rfl dX4_weighs_145 ?_
      refine a_aload_n 3 rfl dX4_weighs_147 ?_
      refine gfX4_54 dX4_weighs_148 ?_
      refine a_iload 1 rfl dX4_weighs_151 ?_
      obtain ⟨b27, h⟩ := h
      refine ldM_15 dX4_weighs_153 b27 (fun g28 => ?_)
      refine kX4_135 (Nat.le_of_ble_eq_true rfl) (Nat.le_of_ble_eq_true rfl) dX4_weighs_154 (s_X4_times g14 g28 h) (fun r30 M29 g31 h => ?_)
      obtain ⟨g32, h⟩ := h
      refine a_ladd dX4_weighs_157 ?_
      refine kX4_131 (Nat.le_of_ble_eq_true rfl) (Nat.le_of_ble_eq_true rfl) dX4_weighs_158 (s_X4_atMost g32 h) (fun r34 M33 g35 h => ?_)
      refine a_lstore (lv' := [(5, vl r34), (3, vl r25), (14, vi r16), (12, vl (M 10 ((2 * x2) + x11))), (0, .ref (ad 0)), (1, vi x1), (2, vi x2), (7, vl x7), (9, vl x9), (11, vi x11)]) (Nat.le_of_ble_eq_true rfl) rfl dX4_weighs_161 ?_
      refine a_lload 7 rfl dX4_weighs_163 ?_
      refine a_lload 3 rfl dX4_weighs_165 ?_
      refine a_aload_n 4 rfl dX4_weighs_167 ?_
      refine gfX4_51 dX4_weighs_168 ?_
      refine a_iconst dX4_weighs_171 ?_
      refine a_iload 2 rfl dX4_weighs_172 ?_
      obtain ⟨g36, h⟩ := h
      refine a_imul dX4_weighs_174 ?_
      obtain ⟨b37, h⟩ := h
      refine ldM_14 dX4_weighs_175 b37 (fun g38 => ?_)
      refine kX4_135 (Nat.le_of_ble_eq_true rfl) (Nat.le_of_ble_eq_true rfl) dX4_weighs_176 (s_X4_times g14 g38 h) (fun r40 M39 g41 h => ?_)
      obtain ⟨g42, h⟩ := h
      refine a_ladd dX4_weighs_179 ?_
      refine kX4_131 (Nat.le_of_ble_eq_true rfl) (Nat.le_of_ble_eq_true rfl) dX4_weighs_180 (s_X4_atMost g42 h) (fun r44 M43 g45 h => ?_)
      refine a_lstore (lv' := [(7, vl r44), (5, vl r34), (3, vl r25), (14, vi r16), (12, vl (M 10 ((2 * x2) + x11))), (0, .ref (ad 0)), (1, vi x1), (2, vi x2), (9, vl x9), (11, vi x11)]) (Nat.le_of_ble_eq_true rfl) rfl dX4_weighs_183 ?_
      refine a_lload 8 rfl dX4_weighs_185 ?_
      refine a_lload 4 rfl dX4_weighs_187 ?_
      refine a_aload_n 5 rfl dX4_weighs_189 ?_
      refine gfX4_51 dX4_weighs_190 ?_
      refine a_iconst dX4_weighs_193 ?_
      refine a_iload 3 rfl dX4_weighs_194 ?_
      obtain ⟨g46, h⟩ := h
      refine a_imul dX4_weighs_196 ?_
      refine a_iconst dX4_weighs_197 ?_
      obtain ⟨g47, h⟩ := h
      refine a_iadd dX4_weighs_198 ?_
      obtain ⟨b48, h⟩ := h
      refine ldM_14 dX4_weighs_199 b48 (fun g49 => ?_)
      refine kX4_135 (Nat.le_of_ble_eq_true rfl) (Nat.le_of_ble_eq_true rfl) dX4_weighs_200 (s_X4_times g14 g49 h) (fun r51 M50 g52 h => ?_)
      obtain ⟨g53, h⟩ := h
      refine a_ladd dX4_weighs_203 ?_
      refine kX4_131 (Nat.le_of_ble_eq_true rfl) (Nat.le_of_ble_eq_true rfl) dX4_weighs_204 (s_X4_atMost g53 h) (fun r55 M54 g56 h => ?_)
      refine a_lstore (lv' := [(9, vl r55), (7, vl r44), (5, vl r34), (3, vl r25), (14, vi r16), (12, vl (M 10 ((2 * x2) + x11))), (0, .ref (ad 0)), (1, vi x1), (2, vi x2), (11, vi x11)]) (Nat.le_of_ble_eq_true rfl) rfl dX4_weighs_207 ?_
      obtain ⟨g57, h⟩ := h
      refine a_iinc (lv' := [(11, vi (x11 + 1)), (9, vl r55), (7, vl r44), (5, vl r34), (3, vl r25), (14, vi r16), (12, vl (M 10 ((2 * x2) + x11))), (0, .ref (ad 0)), (1, vi x1), (2, vi x2)]) 9 rfl (Nat.le_of_ble_eq_true rfl) rfl dX4_weighs_209 ?_
      refine a_goto 92 (by decide) dX4_weighs_212 ?_
      refine AW.pick [7, 8, 9, 4, 3, 2, 1, 0] rfl ?_
      exact ih M54 x1 x2 r25 r34 r44 r55 (x11 + 1) e1 e2 g26 g35 g45 g56 g57 h
set_option maxRecDepth 100000 in
theorem s_X4_weighs {l : Launch} {D : va_G} {ad : Nat → Nat} {cA : Nat → ClassId} {M : Mem} {x1 : Int} {Q : Mem → Prop} (e1 : rg x1) (h : w_X4_weighs M x1 Q) : AM (xM l D ad cA) yX4_weighs mX4_weighs [.ref (ad 0), vi x1] M (qV Q) := by
  refine AM.ofAW (by decide +kernel) rfl (Nat.le_of_ble_eq_true rfl) ?_
  show AW (xM l D ad cA) mX4_weighs (qV Q) 0 [(0, .ref (ad 0)), (1, vi x1)] [] M
  refine a_aload_n 0 rfl dX4_weighs_0 ?_
  refine gfX4_20 dX4_weighs_1 ?_
  refine a_iload_n 1 rfl dX4_weighs_4 ?_
  obtain ⟨b1, h⟩ := h
  refine ldM_4 dX4_weighs_5 b1 (fun g2 => ?_)
  refine a_istore_n (lv' := [(2, vi (M 4 x1)), (0, .ref (ad 0)), (1, vi x1)]) (Nat.le_of_ble_eq_true rfl) rfl dX4_weighs_6 ?_
  refine a_iload_n 0 rfl dX4_weighs_7 ?_
  refine a_bipush (by decide) dX4_weighs_8 ?_
  refine a_icmp_lt 68 g2 (rgk 100 (by decide)) (by decide) dX4_weighs_10 (fun c3 => ?_) (fun c3 => ?_)
  · have h := h.1 c3
    refine a_aload_n 1 rfl dX4_weighs_68 ?_
    refine gfX4_35 dX4_weighs_69 ?_
    refine a_iload_n 0 rfl dX4_weighs_72 ?_
    obtain ⟨b4, h⟩ := h
    refine ldM_9 dX4_weighs_73 b4 (fun g5 => ?_)
    refine a_lstore_n (lv' := [(3, vl (M 9 (M 4 x1))), (2, vi (M 4 x1)), (0, .ref (ad 0)), (1, vi x1)]) (Nat.le_of_ble_eq_true rfl) rfl dX4_weighs_74 ?_
    refine a_aload_n 2 rfl dX4_weighs_75 ?_
    refine gfX4_42 dX4_weighs_76 ?_
    refine a_iload_n 1 rfl dX4_weighs_79 ?_
    obtain ⟨b6, h⟩ := h
    refine ldM_11 dX4_weighs_80 b6 (fun g7 => ?_)
    refine a_lstore (lv' := [(5, vl (M 11 (M 4 x1))), (3, vl (M 9 (M 4 x1))), (2, vi (M 4 x1)), (0, .ref (ad 0)), (1, vi x1)]) (Nat.le_of_ble_eq_true rfl) rfl dX4_weighs_81 ?_
    refine a_lconst (v := 0) rfl dX4_weighs_83 ?_
    refine a_lstore (lv' := [(7, vl 0), (5, vl (M 11 (M 4 x1))), (3, vl (M 9 (M 4 x1))), (2, vi (M 4 x1)), (0, .ref (ad 0)), (1, vi x1)]) (Nat.le_of_ble_eq_true rfl) rfl dX4_weighs_84 ?_
    refine a_lconst (v := 0) rfl dX4_weighs_86 ?_
    refine a_lstore (lv' := [(9, vl 0), (7, vl 0), (5, vl (M 11 (M 4 x1))), (3, vl (M 9 (M 4 x1))), (2, vi (M 4 x1)), (0, .ref (ad 0)), (1, vi x1)]) (Nat.le_of_ble_eq_true rfl) rfl dX4_weighs_87 ?_
    refine a_iconst dX4_weighs_89 ?_
    refine a_istore (lv' := [(11, vi 0), (9, vl 0), (7, vl 0), (5, vl (M 11 (M 4 x1))), (3, vl (M 9 (M 4 x1))), (2, vi (M 4 x1)), (0, .ref (ad 0)), (1, vi x1)]) (Nat.le_of_ble_eq_true rfl) rfl dX4_weighs_90 ?_
    obtain ⟨n92, h⟩ := h
    refine AW.pick [6, 7, 5, 4, 3, 2, 1, 0] rfl ?_
    exact s_X4_weighs_L92 Q n92 M x1 (M 4 x1) (M 9 (M 4 x1)) (M 11 (M 4 x1)) 0 0 0 e1 g2 g5 g7 (rlk 0 (by decide)) (rlk 0 (by decide)) (rgk 0 (by decide)) h
  · have h := h.2 c3
    refine a_aload_n 1 rfl dX4_weighs_13 ?_
    refine gfX4_48 dX4_weighs_14 ?_
    refine a_iload_n 2 rfl dX4_weighs_17 ?_
    refine a_lconst (v := 0) rfl dX4_weighs_18 ?_
    obtain ⟨b8, h⟩ := h
    refine stM_13 dX4_weighs_19 b8 (rlk 0 (by decide)) ?_
    refine a_aload_n 1 rfl dX4_weighs_20 ?_
    refine gfX4_54 dX4_weighs_21 ?_
    refine a_iload_n 2 rfl dX4_weighs_24 ?_
    refine a_lconst (v := 0) rfl dX4_weighs_25 ?_
    obtain ⟨b9, h⟩ := h
    refine stM_15 dX4_weighs_26 b9 (rlk 0 (by decide)) ?_
    refine a_aload_n 1 rfl dX4_weighs_27 ?_
    refine gfX4_51 dX4_weighs_28 ?_
    refine a_iconst dX4_weighs_31 ?_
    refine a_iload_n 2 rfl dX4_weighs_32 ?_
    obtain ⟨g10, h⟩ := h
    refine a_imul dX4_weighs_33 ?_
    refine a_iload_n 0 rfl dX4_weighs_34 ?_
    refine a_bipush (by decide) dX4_weighs_35 ?_
    refine a_icmp_ne 44 g2 (rgk 100 (by decide)) (by decide) dX4_weighs_37 (fun c11 => ?_) (fun c11 => ?_)
    · have h := h.1 c11
      refine a_lconst (v := 0) rfl dX4_weighs_44 ?_
      refine AW.pick [1, 2, 0] rfl ?_
      exact s_X4_weighs_J45 Q (up (up M 13 x1 0) 15 x1 0) x1 (M 4 x1) (2 * x1) 0 e1 g2 g10 (rlk 0 (by decide)) h
    · have h := h.2 c11
      refine a_lconst (v := 1) rfl dX4_weighs_40 ?_
      refine a_goto 45 (by decide) dX4_weighs_41 ?_
      refine AW.pick [1, 2, 0] rfl ?_
      exact s_X4_weighs_J45 Q (up (up M 13 x1 0) 15 x1 0) x1 (M 4 x1) (2 * x1) 1 e1 g2 g10 (rlk 1 (by decide)) h
set_option maxRecDepth 100000 in
theorem s_X4_headNow_J52 {l : Launch} {D : va_G} {ad : Nat → Nat} {cA : Nat → ClassId} (Q : Int → Mem → Prop) (M : Mem) (x2 : Int) (e2 : rg x2) (h : w_X4_headNow_J52 Q M x2) : AW (xM l D ad cA) mX4_headNow (qI Q) 52 [(0, .ref (ad 0)), (2, vi x2)] [] M := by
  refine a_aload_n 0 rfl dX4_headNow_52 ?_
  refine gfX4_20 dX4_headNow_53 ?_
  refine a_iload_n 1 rfl dX4_headNow_56 ?_
  obtain ⟨b1, h⟩ := h
  refine ldM_4 dX4_headNow_57 b1 (fun g2 => ?_)
  refine a_bipush (by decide) dX4_headNow_58 ?_
  refine a_icmp_lt 72 g2 (rgk 100 (by decide)) (by decide) dX4_headNow_60 (fun c3 => ?_) (fun c3 => ?_)
  · have h := h.1 c3
    refine a_aload_n 0 rfl dX4_headNow_72 ?_
    refine gfX4_45 dX4_headNow_73 ?_
    refine a_aload_n 0 rfl dX4_headNow_76 ?_
    refine gfX4_20 dX4_headNow_77 ?_
    refine a_iload_n 1 rfl dX4_headNow_80 ?_
    obtain ⟨b4, h⟩ := h
    refine ldM_4 dX4_headNow_81 b4 (fun g5 => ?_)
    obtain ⟨b6, h⟩ := h
    refine ldM_12 dX4_headNow_82 b6 (fun g7 => ?_)
    exact a_iret rfl dX4_headNow_83 g7 h
  · have h := h.2 c3
    refine a_aload_n 0 rfl dX4_headNow_63 ?_
    refine gfX4_20 dX4_headNow_64 ?_
    refine a_iload_n 1 rfl dX4_headNow_67 ?_
    obtain ⟨b8, h⟩ := h
    refine ldM_4 dX4_headNow_68 b8 (fun g9 => ?_)
    refine a_goto 83 (by decide) dX4_headNow_69 ?_
    exact a_iret rfl dX4_headNow_83 g9 h
set_option maxRecDepth 100000 in
theorem s_X4_headNow_L2 {l : Launch} {D : va_G} {ad : Nat → Nat} {cA : Nat → ClassId} (Q : Int → Mem → Prop) : ∀ (n : Nat) (M : Mem) (x2 : Int), rg x2 → w_X4_headNow_L2 Q n M x2 → AW (xM l D ad cA) mX4_headNow (qI Q) 2 [(0, .ref (ad 0)), (2, vi x2)] [] M := by
  intro n
  induction n with
  | zero => intro M x2 e2 h; exact absurd h id
  | succ n ih =>
    intro M x2 e2 h
    refine a_aload_n 0 rfl dX4_headNow_2 ?_
    refine gfX4_20 dX4_headNow_3 ?_
    refine a_iload_n 1 rfl dX4_headNow_6 ?_
    obtain ⟨b1, h⟩ := h
    refine ldM_4 dX4_headNow_7 b1 (fun g2 => ?_)
    refine a_bipush (by decide) dX4_headNow_8 ?_
    refine a_icmp_ge 52 g2 (rgk 100 (by decide)) (by decide) dX4_headNow_10 (fun c3 => ?_) (fun c3 => ?_)
    · have h := h.1 c3
      refine AW.pick [0, 1] rfl ?_
      exact s_X4_headNow_J52 Q M x2 e2 h
    · have h := h.2 c3
      refine a_aload_n 0 rfl dX4_headNow_13 ?_
      refine gfX4_45 dX4_headNow_14 ?_
      refine a_aload_n 0 rfl dX4_headNow_17 ?_
      refine gfX4_20 dX4_headNow_18 ?_
      refine a_iload_n 1 rfl dX4_headNow_21 ?_
      obtain ⟨b4, h⟩ := h
      refine ldM_4 dX4_headNow_22 b4 (fun g5 => ?_)
      obtain ⟨b6, h⟩ := h
      refine ldM_12 dX4_headNow_23 b6 (fun g7 => ?_)
      refine a_bipush (by decide) dX4_headNow_24 ?_
      refine a_icmp_lt 52 g7 (rgk 100 (by decide)) (by decide) dX4_headNow_26 (fun c8 => ?_) (fun c8 => ?_)
      · have h := h.1 c8
        refine AW.pick [0, 1] rfl ?_
        exact s_X4_headNow_J52 Q M x2 e2 h
      · have h := h.2 c8
        refine a_aload_n 0 rfl dX4_headNow_29 ?_
        refine a_iload_n 1 rfl dX4_headNow_30 ?_
        refine a_aload_n 0 rfl dX4_headNow_31 ?_
        refine gfX4_45 dX4_headNow_32 ?_
        refine a_aload_n 0 rfl dX4_headNow_35 ?_
        refine gfX4_20 dX4_headNow_36 ?_
        refine a_iload_n 1 rfl dX4_headNow_39 ?_
        obtain ⟨b9, h⟩ := h
        refine ldM_4 dX4_headNow_40 b9 (fun g10 => ?_)
        obtain ⟨b11, h⟩ := h
        refine ldM_12 dX4_headNow_41 b11 (fun g12 => ?_)
        refine a_bipush (by decide) dX4_headNow_42 ?_
        obtain ⟨g13, h⟩ := h
        refine a_isub dX4_headNow_44 ?_
        refine kX4_90 (Nat.le_of_ble_eq_true rfl) (Nat.le_of_ble_eq_true rfl) dX4_headNow_45 (s_X4_part e2 g13 h) (fun r15 M14 g16 h => ?_)
        refine a_istore_n (lv' := [(2, vi r15), (0, .ref (ad 0))]) (Nat.le_of_ble_eq_true rfl) rfl dX4_headNow_48 ?_
        refine a_goto 2 (by decide) dX4_headNow_49 ?_
        refine AW.pick [1, 0] rfl ?_
        exact ih M14 r15 g16 h
set_option maxRecDepth 100000 in
theorem s_X4_headNow {l : Launch} {D : va_G} {ad : Nat → Nat} {cA : Nat → ClassId} {M : Mem} {x1 : Int} {Q : Int → Mem → Prop} (e1 : rg x1) (h : w_X4_headNow M x1 Q) : AM (xM l D ad cA) yX4_headNow mX4_headNow [.ref (ad 0), vi x1] M (qI Q) := by
  refine AM.ofAW (by decide +kernel) rfl (Nat.le_of_ble_eq_true rfl) ?_
  show AW (xM l D ad cA) mX4_headNow (qI Q) 0 [(0, .ref (ad 0)), (1, vi x1)] [] M
  refine a_iload_n 1 rfl dX4_headNow_0 ?_
  refine a_istore_n (lv' := [(2, vi x1), (0, .ref (ad 0)), (1, vi x1)]) (Nat.le_of_ble_eq_true rfl) rfl dX4_headNow_1 ?_
  obtain ⟨n2, h⟩ := h
  refine AW.pick [1, 0] rfl ?_
  exact s_X4_headNow_L2 Q n2 M x1 e1 h
set_option maxRecDepth 100000 in
theorem s_X4_findName_J127 {l : Launch} {D : va_G} {ad : Nat → Nat} {cA : Nat → ClassId} (Q : Mem → Prop) (K79 : Mem → Int → Int → Int → Int → Prop) (hK79 : ∀ (M : Mem) (x1 : Int) (x2 : Int) (x3 : Int) (x4 : Int), rg x1 → rg x2 → rg x3 → rg x4 → K79 M x1 x2 x3 x4 → AW (xM l D ad cA) mX4_findName (qV Q) 79 [(0, .ref (ad 0)), (1, vi x1), (2, vi x2), (3, vi x3), (4, vi x4)] [] M) (M : Mem) (x1 : Int) (x2 : Int) (x4 : Int) (y0 : Int) (e1 : rg x1) (e2 : rg x2) (e4 : rg x4) (f0 : rg y0) (h : w_X4_findName_J127 Q K79 M x1 x2 x4 y0) : AW (xM l D ad cA) mX4_findName (qV Q) 127 [(0, .ref (ad 0)), (1, vi x1), (2, vi x2), (4, vi x4)] [vi y0] M := by
  refine a_istore_n (lv' := [(3, vi y0), (0, .ref (ad 0)), (1, vi x1), (2, vi x2), (4, vi x4)]) (Nat.le_of_ble_eq_true rfl) rfl dX4_findName_127 ?_
  refine a_aload_n 1 rfl dX4_findName_128 ?_
  refine a_aload_n 1 rfl dX4_findName_129 ?_
  refine gfX4_29 dX4_findName_130 ?_
  refine a_iload 4 rfl dX4_findName_133 ?_
  obtain ⟨b1, h⟩ := h
  refine ldM_7 dX4_findName_135 b1 (fun g2 => ?_)
  refine kX4_142 (Nat.le_of_ble_eq_true rfl) (Nat.le_of_ble_eq_true rfl) dX4_findName_136 (s_X4_weighs g2 h) (fun M3 h => ?_)
  obtain ⟨g6, h⟩ := h
  refine a_iinc (lv' := [(4, vi (x4 + (-1))), (3, vi y0), (0, .ref (ad 0)), (1, vi x1), (2, vi x2)]) 4 rfl (Nat.le_of_ble_eq_true rfl) rfl dX4_findName_139 ?_
  refine a_goto 79 (by decide) dX4_findName_142 ?_
  refine AW.pick [2, 3, 4, 1, 0] rfl ?_
  exact hK79 M3 x1 x2 y0 (x4 + (-1)) e1 e2 f0 g6 h
set_option maxRecDepth 100000 in
theorem s_X4_findName_J126 {l : Launch} {D : va_G} {ad : Nat → Nat} {cA : Nat → ClassId} (Q : Mem → Prop) (K79 : Mem → Int → Int → Int → Int → Prop) (hK79 : ∀ (M : Mem) (x1 : Int) (x2 : Int) (x3 : Int) (x4 : Int), rg x1 → rg x2 → rg x3 → rg x4 → K79 M x1 x2 x3 x4 → AW (xM l D ad cA) mX4_findName (qV Q) 79 [(0, .ref (ad 0)), (1, vi x1), (2, vi x2), (3, vi x3), (4, vi x4)] [] M) (M : Mem) (x1 : Int) (x2 : Int) (x3 : Int) (x4 : Int) (e1 : rg x1) (e2 : rg x2) (e3 : rg x3) (e4 : rg x4) (h : w_X4_findName_J126 Q K79 M x1 x2 x3 x4) : AW (xM l D ad cA) mX4_findName (qV Q) 126 [(0, .ref (ad 0)), (1, vi x1), (2, vi x2), (3, vi x3), (4, vi x4)] [] M := by
  refine a_iload_n 3 rfl dX4_findName_126 ?_
  refine AW.pick [0, 1, 2, 4] rfl ?_
  exact s_X4_findName_J127 Q K79 hK79 M x1 x2 x4 x3 e1 e2 e4 e3 h
set_option maxRecDepth 100000 in
theorem s_X4_findName_L79 {l : Launch} {D : va_G} {ad : Nat → Nat} {cA : Nat → ClassId} (Q : Mem → Prop) : ∀ (n : Nat) (M : Mem) (x1 : Int) (x2 : Int) (x3 : Int) (x4 : Int), rg x1 → rg x2 → rg x3 → rg x4 → w_X4_findName_L79 Q n M x1 x2 x3 x4 → AW (xM l D ad cA) mX4_findName (qV Q) 79 [(0, .ref (ad 0)), (1, vi x1), (2, vi x2), (3, vi x3), (4, vi x4)] [] M := by
  intro n
  induction n with
  | zero => intro M x1 x2 x3 x4 e1 e2 e3 e4 h; exact absurd h id
  | succ n ih =>
    intro M x1 x2 x3 x4 e1 e2 e3 e4 h
    refine a_iload 4 rfl dX4_findName_79 ?_
    refine a_if_lt 145 e4 (by decide) dX4_findName_81 (fun c1 => ?_) (fun c1 => ?_)
    · have h := h.1 c1
      refine a_aload_n 0 rfl dX4_findName_145 ?_
      refine gfX4_32 dX4_findName_146 ?_
      refine a_iload_n 1 rfl dX4_findName_149 ?_
      refine a_iconst dX4_findName_150 ?_
      refine a_iload_n 3 rfl dX4_findName_151 ?_
      obtain ⟨g2, h⟩ := h
      refine a_iadd dX4_findName_152 ?_
      obtain ⟨b3, h⟩ := h
      refine stM_8 dX4_findName_153 b3 g2 ?_
      refine a_aload_n 0 rfl dX4_findName_154 ?_
      refine gfX4_35 dX4_findName_155 ?_
      refine a_iload_n 1 rfl dX4_findName_158 ?_
      refine a_aload_n 0 rfl dX4_findName_159 ?_
      refine gfX4_48 dX4_findName_160 ?_
      refine a_iload_n 2 rfl dX4_findName_163 ?_
      obtain ⟨b4, h⟩ := h
      refine ldM_13 dX4_findName_164 b4 (fun g5 => ?_)
      obtain ⟨b6, h⟩ := h
      refine stM_9 dX4_findName_165 b6 g5 ?_
      refine a_aload_n 0 rfl dX4_findName_166 ?_
      refine gfX4_39 dX4_findName_167 ?_
      refine a_iconst dX4_findName_170 ?_
      refine a_iload_n 1 rfl dX4_findName_171 ?_
      obtain ⟨g7, h⟩ := h
      refine a_imul dX4_findName_172 ?_
      refine a_aload_n 0 rfl dX4_findName_173 ?_
      refine gfX4_51 dX4_findName_174 ?_
      refine a_iconst dX4_findName_177 ?_
      refine a_iload_n 2 rfl dX4_findName_178 ?_
      obtain ⟨g8, h⟩ := h
      refine a_imul dX4_findName_179 ?_
      obtain ⟨b9, h⟩ := h
      refine ldM_14 dX4_findName_180 b9 (fun g10 => ?_)
      obtain ⟨b11, h⟩ := h
      refine stM_10 dX4_findName_181 b11 g10 ?_
      refine a_aload_n 0 rfl dX4_findName_182 ?_
      refine gfX4_39 dX4_findName_183 ?_
      refine a_iconst dX4_findName_186 ?_
      refine a_iload_n 1 rfl dX4_findName_187 ?_
      obtain ⟨g12, h⟩ := h
      refine a_imul dX4_findName_188 ?_
      refine a_iconst dX4_findName_189 ?_
      obtain ⟨g13, h⟩ := h
      refine a_iadd dX4_findName_190 ?_
      refine a_aload_n 0 rfl dX4_findName_191 ?_
      refine gfX4_51 dX4_findName_192 ?_
      refine a_iconst dX4_findName_195 ?_
      refine a_iload_n 2 rfl dX4_findName_196 ?_
      obtain ⟨g14, h⟩ := h
      refine a_imul dX4_findName_197 ?_
      refine a_iconst dX4_findName_198 ?_
      obtain ⟨g15, h⟩ := h
      refine a_iadd dX4_findName_199 ?_
      obtain ⟨b16, h⟩ := h
      refine ldM_14 dX4_findName_200 b16 (fun g17 => ?_)
      obtain ⟨b18, h⟩ := h
      refine stM_10 dX4_findName_201 b18 g17 ?_
      refine a_aload_n 0 rfl dX4_findName_202 ?_
      refine gfX4_42 dX4_findName_203 ?_
      refine a_iload_n 1 rfl dX4_findName_206 ?_
      refine a_lconst (v := 1) rfl dX4_findName_207 ?_
      refine a_aload_n 0 rfl dX4_findName_208 ?_
      refine gfX4_54 dX4_findName_209 ?_
      refine a_iload_n 2 rfl dX4_findName_212 ?_
      obtain ⟨b19, h⟩ := h
      refine ldM_15 dX4_findName_213 b19 (fun g20 => ?_)
      obtain ⟨g21, h⟩ := h
      refine a_ladd dX4_findName_214 ?_
      refine kX4_131 (Nat.le_of_ble_eq_true rfl) (Nat.le_of_ble_eq_true rfl) dX4_findName_215 (s_X4_atMost g21 h) (fun r23 M22 g24 h => ?_)
      obtain ⟨b25, h⟩ := h
      refine stM_11 dX4_findName_218 b25 g24 ?_
      refine a_aload_n 0 rfl dX4_findName_219 ?_
      refine gfX4_45 dX4_findName_220 ?_
      refine a_iload_n 1 rfl dX4_findName_223 ?_
      refine a_aload_n 0 rfl dX4_findName_224 ?_
      refine a_iload_n 2 rfl dX4_findName_225 ?_
      refine kX4_145 (Nat.le_of_ble_eq_true rfl) (Nat.le_of_ble_eq_true rfl) dX4_findName_226 (s_X4_headNow e2 h) (fun r27 M26 g28 h => ?_)
      obtain ⟨b29, h⟩ := h
      refine stM_12 dX4_findName_229 b29 g28 ?_
      exact a_vret rfl dX4_findName_230 h
    · have h := h.2 c1
      refine a_aload_n 0 rfl dX4_findName_84 ?_
      refine gfX4_20 dX4_findName_85 ?_
      refine a_aload_n 0 rfl dX4_findName_88 ?_
      refine gfX4_29 dX4_findName_89 ?_
      refine a_iload 4 rfl dX4_findName_92 ?_
      obtain ⟨b30, h⟩ := h
      refine ldM_7 dX4_findName_94 b30 (fun g31 => ?_)
      obtain ⟨b32, h⟩ := h
      refine ldM_4 dX4_findName_95 b32 (fun g33 => ?_)
      refine a_istore (lv' := [(5, vi (M 4 (M 7 x4))), (0, .ref (ad 0)), (1, vi x1), (2, vi x2), (3, vi x3), (4, vi x4)]) (Nat.le_of_ble_eq_true rfl) rfl dX4_findName_96 ?_
      refine a_iload 0 rfl dX4_findName_98 ?_
      refine a_bipush (by decide) dX4_findName_100 ?_
      refine a_icmp_ge 126 g33 (rgk 100 (by decide)) (by decide) dX4_findName_102 (fun c34 => ?_) (fun c34 => ?_)
      · have h := h.1 c34
        refine AW.pick [1, 2, 3, 4, 5] rfl ?_
        exact s_X4_findName_J126 Q (w_X4_findName_L79 Q n) ih M x1 x2 x3 x4 e1 e2 e3 e4 h
      · have h := h.2 c34
        refine a_aload_n 1 rfl dX4_findName_105 ?_
        refine gfX4_32 dX4_findName_106 ?_
        refine a_iload 0 rfl dX4_findName_109 ?_
        obtain ⟨b35, h⟩ := h
        refine ldM_8 dX4_findName_111 b35 (fun g36 => ?_)
        refine a_iload_n 4 rfl dX4_findName_112 ?_
        refine a_icmp_le 126 g36 e3 (by decide) dX4_findName_113 (fun c37 => ?_) (fun c37 => ?_)
        · have h := h.1 c37
          refine AW.pick [1, 2, 3, 4, 5] rfl ?_
          exact s_X4_findName_J126 Q (w_X4_findName_L79 Q n) ih M x1 x2 x3 x4 e1 e2 e3 e4 h
        · have h := h.2 c37
          refine a_aload_n 1 rfl dX4_findName_116 ?_
          refine gfX4_32 dX4_findName_117 ?_
          refine a_iload 0 rfl dX4_findName_120 ?_
          obtain ⟨b38, h⟩ := h
          refine ldM_8 dX4_findName_122 b38 (fun g39 => ?_)
          refine a_goto 127 (by decide) dX4_findName_123 ?_
          refine AW.pick [1, 2, 3, 5] rfl ?_
          exact s_X4_findName_J127 Q (w_X4_findName_L79 Q n) ih M x1 x2 x4 (M 8 (M 4 (M 7 x4))) e1 e2 e4 g39 h
set_option maxRecDepth 100000 in
theorem s_X4_findName {l : Launch} {D : va_G} {ad : Nat → Nat} {cA : Nat → ClassId} {M : Mem} {x1 : Int} {Q : Mem → Prop} (e1 : rg x1) (h : w_X4_findName M x1 Q) : AM (xM l D ad cA) yX4_findName mX4_findName [.ref (ad 0), vi x1] M (qV Q) := by
  refine AM.ofAW (by decide +kernel) rfl (Nat.le_of_ble_eq_true rfl) ?_
  show AW (xM l D ad cA) mX4_findName (qV Q) 0 [(0, .ref (ad 0)), (1, vi x1)] [] M
  refine a_aload_n 0 rfl dX4_findName_0 ?_
  refine gfX4_32 dX4_findName_1 ?_
  refine a_iload_n 1 rfl dX4_findName_4 ?_
  refine a_iconst dX4_findName_5 ?_
  obtain ⟨b1, h⟩ := h
  refine stM_8 dX4_findName_6 b1 (rgk 0 (by decide)) ?_
  refine a_aload_n 0 rfl dX4_findName_7 ?_
  refine gfX4_35 dX4_findName_8 ?_
  refine a_iload_n 1 rfl dX4_findName_11 ?_
  refine a_lconst (v := 1) rfl dX4_findName_12 ?_
  obtain ⟨b2, h⟩ := h
  refine stM_9 dX4_findName_13 b2 (rlk 1 (by decide)) ?_
  refine a_aload_n 0 rfl dX4_findName_14 ?_
  refine gfX4_39 dX4_findName_15 ?_
  refine a_iconst dX4_findName_18 ?_
  refine a_iload_n 1 rfl dX4_findName_19 ?_
  obtain ⟨g3, h⟩ := h
  refine a_imul dX4_findName_20 ?_
  refine a_lconst (v := 1) rfl dX4_findName_21 ?_
  obtain ⟨b4, h⟩ := h
  refine stM_10 dX4_findName_22 b4 (rlk 1 (by decide)) ?_
  refine a_aload_n 0 rfl dX4_findName_23 ?_
  refine gfX4_39 dX4_findName_24 ?_
  refine a_iconst dX4_findName_27 ?_
  refine a_iload_n 1 rfl dX4_findName_28 ?_
  obtain ⟨g5, h⟩ := h
  refine a_imul dX4_findName_29 ?_
  refine a_iconst dX4_findName_30 ?_
  obtain ⟨g6, h⟩ := h
  refine a_iadd dX4_findName_31 ?_
  refine a_lconst (v := 1) rfl dX4_findName_32 ?_
  obtain ⟨b7, h⟩ := h
  refine stM_10 dX4_findName_33 b7 (rlk 1 (by decide)) ?_
  refine a_aload_n 0 rfl dX4_findName_34 ?_
  refine gfX4_42 dX4_findName_35 ?_
  refine a_iload_n 1 rfl dX4_findName_38 ?_
  refine a_lconst (v := 0) rfl dX4_findName_39 ?_
  obtain ⟨b8, h⟩ := h
  refine stM_11 dX4_findName_40 b8 (rlk 0 (by decide)) ?_
  refine a_aload_n 0 rfl dX4_findName_41 ?_
  refine gfX4_45 dX4_findName_42 ?_
  refine a_iload_n 1 rfl dX4_findName_45 ?_
  refine a_iload_n 1 rfl dX4_findName_46 ?_
  obtain ⟨b9, h⟩ := h
  refine stM_12 dX4_findName_47 b9 e1 ?_
  refine a_aload_n 0 rfl dX4_findName_48 ?_
  refine a_iload_n 1 rfl dX4_findName_49 ?_
  refine kX4_139 (Nat.le_of_ble_eq_true rfl) (Nat.le_of_ble_eq_true rfl) dX4_findName_50 (s_X4_isFolded e1 h) (fun r11 M10 g12 h => ?_)
  refine a_if_ne 57 g12 (by decide) dX4_findName_53 (fun c13 => ?_) (fun c13 => ?_)
  · have h := h.1 c13
    refine a_aload_n 0 rfl dX4_findName_57 ?_
    refine gfX4_13 dX4_findName_58 ?_
    refine a_iload_n 1 rfl dX4_findName_61 ?_
    obtain ⟨b14, h⟩ := h
    refine ldM_2 dX4_findName_62 b14 (fun g15 => ?_)
    refine a_istore_n (lv' := [(2, vi (M10 2 x1)), (0, .ref (ad 0)), (1, vi x1)]) (Nat.le_of_ble_eq_true rfl) rfl dX4_findName_63 ?_
    refine a_aload_n 1 rfl dX4_findName_64 ?_
    refine a_iload_n 0 rfl dX4_findName_65 ?_
    refine kX4_121 (Nat.le_of_ble_eq_true rfl) (Nat.le_of_ble_eq_true rfl) dX4_findName_66 (s_X4_goesThrough g15 h) (fun M16 h => ?_)
    refine a_iconst dX4_findName_69 ?_
    refine a_istore_n (lv' := [(3, vi 0), (2, vi (M10 2 x1)), (0, .ref (ad 0)), (1, vi x1)]) (Nat.le_of_ble_eq_true rfl) rfl dX4_findName_70 ?_
    refine a_aload_n 2 rfl dX4_findName_71 ?_
    refine gfX4_114 dX4_findName_72 (fun g19 => ?_)
    refine a_iconst dX4_findName_75 ?_
    obtain ⟨g20, h⟩ := h
    refine a_isub dX4_findName_76 ?_
    refine a_istore (lv' := [(4, vi ((M16 0 9) - 1)), (3, vi 0), (2, vi (M10 2 x1)), (0, .ref (ad 0)), (1, vi x1)]) (Nat.le_of_ble_eq_true rfl) rfl dX4_findName_77 ?_
    obtain ⟨n79, h⟩ := h
    refine AW.pick [3, 4, 2, 1, 0] rfl ?_
    exact s_X4_findName_L79 Q n79 M16 x1 (M10 2 x1) 0 ((M16 0 9) - 1) e1 g15 (rgk 0 (by decide)) g20 h
  · have h := h.2 c13
    exact a_vret rfl dX4_findName_56 h
set_option maxRecDepth 100000 in
theorem s_X4_findNames_L2 {l : Launch} {D : va_G} {ad : Nat → Nat} {cA : Nat → ClassId} (Q : Mem → Prop) : ∀ (n : Nat) (M : Mem) (x1 : Int), rg x1 → w_X4_findNames_L2 Q n M x1 → AW (xM l D ad cA) mX4_findNames (qV Q) 2 [(0, .ref (ad 0)), (1, vi x1)] [] M := by
  intro n
  induction n with
  | zero => intro M x1 e1 h; exact absurd h id
  | succ n ih =>
    intro M x1 e1 h
    refine a_iload_n 1 rfl dX4_findNames_2 ?_
    refine a_aload_n 0 rfl dX4_findNames_3 ?_
    refine gfX4_76 dX4_findNames_4 (fun g1 => ?_)
    refine a_icmp_ge 21 e1 g1 (by decide) dX4_findNames_7 (fun c2 => ?_) (fun c2 => ?_)
    · have h := h.1 c2
      exact a_vret rfl dX4_findNames_21 h
    · have h := h.2 c2
      refine a_aload_n 0 rfl dX4_findNames_10 ?_
      refine a_iload_n 1 rfl dX4_findNames_11 ?_
      refine kX4_148 (Nat.le_of_ble_eq_true rfl) (Nat.le_of_ble_eq_true rfl) dX4_findNames_12 (s_X4_findName e1 h) (fun M3 h => ?_)
      obtain ⟨g6, h⟩ := h
      refine a_iinc (lv' := [(1, vi (x1 + 1)), (0, .ref (ad 0))]) 1 rfl (Nat.le_of_ble_eq_true rfl) rfl dX4_findNames_15 ?_
      refine a_goto 2 (by decide) dX4_findNames_18 ?_
      refine AW.pick [1, 0] rfl ?_
      exact ih M3 (x1 + 1) g6 h
set_option maxRecDepth 100000 in
theorem s_X4_findNames {l : Launch} {D : va_G} {ad : Nat → Nat} {cA : Nat → ClassId} {M : Mem} {Q : Mem → Prop} (h : w_X4_findNames M Q) : AM (xM l D ad cA) yX4_findNames mX4_findNames [.ref (ad 0)] M (qV Q) := by
  refine AM.ofAW (by decide +kernel) rfl (Nat.le_of_ble_eq_true rfl) ?_
  show AW (xM l D ad cA) mX4_findNames (qV Q) 0 [(0, .ref (ad 0))] [] M
  refine a_iconst dX4_findNames_0 ?_
  refine a_istore_n (lv' := [(1, vi 0), (0, .ref (ad 0))]) (Nat.le_of_ble_eq_true rfl) rfl dX4_findNames_1 ?_
  obtain ⟨n2, h⟩ := h
  refine AW.pick [1, 0] rfl ?_
  exact s_X4_findNames_L2 Q n2 M 0 (rgk 0 (by decide)) h
set_option maxRecDepth 100000 in
theorem s_X4_ofName {l : Launch} {D : va_G} {ad : Nat → Nat} {cA : Nat → ClassId} {M : Mem} {x1 : Int} {x2 : Int} {Q : Int → Mem → Prop} (e1 : rg x1) (e2 : rg x2) (h : w_X4_ofName M x1 x2 Q) : AM (xM l D ad cA) yX4_ofName mX4_ofName [.ref (ad 0), vi x1, vi x2] M (qI Q) := by
  refine AM.ofAW (by decide +kernel) rfl (Nat.le_of_ble_eq_true rfl) ?_
  show AW (xM l D ad cA) mX4_ofName (qI Q) 0 [(0, .ref (ad 0)), (1, vi x1), (2, vi x2)] [] M
  refine a_aload_n 0 rfl dX4_ofName_0 ?_
  refine a_iload_n 1 rfl dX4_ofName_1 ?_
  refine kX4_107 (Nat.le_of_ble_eq_true rfl) (Nat.le_of_ble_eq_true rfl) dX4_ofName_2 (s_X4_isName e1 h) (fun r2 M1 g3 h => ?_)
  refine a_if_ne 10 g3 (by decide) dX4_ofName_5 (fun c4 => ?_) (fun c4 => ?_)
  · have h := h.1 c4
    refine a_aload_n 0 rfl dX4_ofName_10 ?_
    refine kX4_151 (Nat.le_of_ble_eq_true rfl) (Nat.le_of_ble_eq_true rfl) dX4_ofName_11 (s_X4_findNames h) (fun M5 h => ?_)
    refine a_iload_n 2 rfl dX4_ofName_14 ?_
    have c8 : (x2 < 0 ∨ 3 < x2) ∨ x2 = 0 ∨ x2 = 1 ∨ x2 = 2 ∨ x2 = 3 := by omega
    rcases c8 with c8 | c8 | c8 | c8 | c8
    · have h := h.1 c8
      refine a_tsOut 80 e2 (by decide) dX4_ofName_15 c8 ?_
      refine a_bipush (by decide) dX4_ofName_80 ?_
      exact a_iret rfl dX4_ofName_82 (rgk (-2) (by decide)) h
    · have h := h.2.1 c8
      refine a_tsIn (b := 0) (off := 29) 44 e2 (by decide) dX4_ofName_15 c8 (by decide) (by decide) rfl ?_
      refine a_aload_n 0 rfl dX4_ofName_44 ?_
      refine gfX4_7 dX4_ofName_45 ?_
      refine a_iload_n 1 rfl dX4_ofName_48 ?_
      obtain ⟨b9, h⟩ := h
      refine ldM_1 dX4_ofName_49 b9 (fun g10 => ?_)
      exact a_iret rfl dX4_ofName_50 g10 h
    · have h := h.2.2.1 c8
      refine a_tsIn (b := 1) (off := 36) 51 e2 (by decide) dX4_ofName_15 c8 (by decide) (by decide) rfl ?_
      refine a_aload_n 0 rfl dX4_ofName_51 ?_
      refine gfX4_13 dX4_ofName_52 ?_
      refine a_iload_n 1 rfl dX4_ofName_55 ?_
      obtain ⟨b11, h⟩ := h
      refine ldM_2 dX4_ofName_56 b11 (fun g12 => ?_)
      exact a_iret rfl dX4_ofName_57 g12 h
    · have h := h.2.2.2.1 c8
      refine a_tsIn (b := 2) (off := 43) 58 e2 (by decide) dX4_ofName_15 c8 (by decide) (by decide) rfl ?_
      refine a_aload_n 0 rfl dX4_ofName_58 ?_
      refine gfX4_16 dX4_ofName_59 ?_
      refine a_iload_n 1 rfl dX4_ofName_62 ?_
      obtain ⟨b13, h⟩ := h
      refine ldM_3 dX4_ofName_63 b13 (fun g14 => ?_)
      refine a_if_eq 71 g14 (by decide) dX4_ofName_64 (fun c15 => ?_) (fun c15 => ?_)
      · have h := h.1 c15
        refine a_iconst dX4_ofName_71 ?_
        exact a_iret rfl dX4_ofName_72 (rgk 0 (by decide)) h
      · have h := h.2 c15
        refine a_iconst dX4_ofName_67 ?_
        refine a_goto 72 (by decide) dX4_ofName_68 ?_
        exact a_iret rfl dX4_ofName_72 (rgk 1 (by decide)) h
    · have h := h.2.2.2.2 c8
      refine a_tsIn (b := 3) (off := 58) 73 e2 (by decide) dX4_ofName_15 c8 (by decide) (by decide) rfl ?_
      refine a_aload_n 0 rfl dX4_ofName_73 ?_
      refine gfX4_32 dX4_ofName_74 ?_
      refine a_iload_n 1 rfl dX4_ofName_77 ?_
      obtain ⟨b16, h⟩ := h
      refine ldM_8 dX4_ofName_78 b16 (fun g17 => ?_)
      exact a_iret rfl dX4_ofName_79 g17 h
  · have h := h.2 c4
    refine a_iconst dX4_ofName_8 ?_
    exact a_iret rfl dX4_ofName_9 (rgk (-1) (by decide)) h
set_option maxRecDepth 100000 in
theorem s_X4_ofTerm {l : Launch} {D : va_G} {ad : Nat → Nat} {cA : Nat → ClassId} {M : Mem} {x1 : Int} {x2 : Int} {Q : Int → Mem → Prop} (e1 : rg x1) (e2 : rg x2) (h : w_X4_ofTerm M x1 x2 Q) : AM (xM l D ad cA) yX4_ofTerm mX4_ofTerm [.ref (ad 0), vi x1, vi x2] M (qI Q) := by
  refine AM.ofAW (by decide +kernel) rfl (Nat.le_of_ble_eq_true rfl) ?_
  show AW (xM l D ad cA) mX4_ofTerm (qI Q) 0 [(0, .ref (ad 0)), (1, vi x1), (2, vi x2)] [] M
  refine a_aload_n 0 rfl dX4_ofTerm_0 ?_
  refine a_iload_n 1 rfl dX4_ofTerm_1 ?_
  refine kX4_111 (Nat.le_of_ble_eq_true rfl) (Nat.le_of_ble_eq_true rfl) dX4_ofTerm_2 (s_X4_isTerm e1 h) (fun r2 M1 g3 h => ?_)
  refine a_if_ne 10 g3 (by decide) dX4_ofTerm_5 (fun c4 => ?_) (fun c4 => ?_)
  · have h := h.1 c4
    refine a_iload_n 2 rfl dX4_ofTerm_10 ?_
    have c5 : (x2 < 0 ∨ 5 < x2) ∨ x2 = 0 ∨ x2 = 1 ∨ x2 = 2 ∨ x2 = 3 ∨ x2 = 4 ∨ x2 = 5 := by omega
    rcases c5 with c5 | c5 | c5 | c5 | c5 | c5 | c5
    · have h := h.1 c5
      refine a_tsOut 132 e2 (by decide) dX4_ofTerm_11 c5 ?_
      refine a_bipush (by decide) dX4_ofTerm_132 ?_
      exact a_iret rfl dX4_ofTerm_134 (rgk (-2) (by decide)) h
    · have h := h.2.1 c5
      refine a_tsIn (b := 0) (off := 37) 48 e2 (by decide) dX4_ofTerm_11 c5 (by decide) (by decide) rfl ?_
      refine a_aload_n 0 rfl dX4_ofTerm_48 ?_
      refine gfX4_20 dX4_ofTerm_49 ?_
      refine a_iload_n 1 rfl dX4_ofTerm_52 ?_
      obtain ⟨b6, h⟩ := h
      refine ldM_4 dX4_ofTerm_53 b6 (fun g7 => ?_)
      refine a_bipush (by decide) dX4_ofTerm_54 ?_
      refine a_icmp_ge 68 g7 (rgk 100 (by decide)) (by decide) dX4_ofTerm_56 (fun c8 => ?_) (fun c8 => ?_)
      · have h := h.1 c8
        refine a_bipush (by decide) dX4_ofTerm_68 ?_
        exact a_iret rfl dX4_ofTerm_70 (rgk (-9) (by decide)) h
      · have h := h.2 c8
        refine a_aload_n 0 rfl dX4_ofTerm_59 ?_
        refine gfX4_20 dX4_ofTerm_60 ?_
        refine a_iload_n 1 rfl dX4_ofTerm_63 ?_
        obtain ⟨b9, h⟩ := h
        refine ldM_4 dX4_ofTerm_64 b9 (fun g10 => ?_)
        refine a_goto 70 (by decide) dX4_ofTerm_65 ?_
        exact a_iret rfl dX4_ofTerm_70 g10 h
    · have h := h.2.2.1 c5
      refine a_tsIn (b := 1) (off := 60) 71 e2 (by decide) dX4_ofTerm_11 c5 (by decide) (by decide) rfl ?_
      refine a_aload_n 0 rfl dX4_ofTerm_71 ?_
      refine a_iload_n 1 rfl dX4_ofTerm_72 ?_
      refine a_iconst dX4_ofTerm_73 ?_
      refine kX4_90 (Nat.le_of_ble_eq_true rfl) (Nat.le_of_ble_eq_true rfl) dX4_ofTerm_74 (s_X4_part e1 (rgk 0 (by decide)) h) (fun r12 M11 g13 h => ?_)
      exact a_iret rfl dX4_ofTerm_77 g13 h
    · have h := h.2.2.2.1 c5
      refine a_tsIn (b := 2) (off := 67) 78 e2 (by decide) dX4_ofTerm_11 c5 (by decide) (by decide) rfl ?_
      refine a_aload_n 0 rfl dX4_ofTerm_78 ?_
      refine a_iload_n 1 rfl dX4_ofTerm_79 ?_
      refine a_iconst dX4_ofTerm_80 ?_
      refine kX4_90 (Nat.le_of_ble_eq_true rfl) (Nat.le_of_ble_eq_true rfl) dX4_ofTerm_81 (s_X4_part e1 (rgk 1 (by decide)) h) (fun r15 M14 g16 h => ?_)
      exact a_iret rfl dX4_ofTerm_84 g16 h
    · have h := h.2.2.2.2.1 c5
      refine a_tsIn (b := 3) (off := 74) 85 e2 (by decide) dX4_ofTerm_11 c5 (by decide) (by decide) rfl ?_
      refine a_aload_n 0 rfl dX4_ofTerm_85 ?_
      refine gfX4_20 dX4_ofTerm_86 ?_
      refine a_iload_n 1 rfl dX4_ofTerm_89 ?_
      obtain ⟨b17, h⟩ := h
      refine ldM_4 dX4_ofTerm_90 b17 (fun g18 => ?_)
      refine a_bipush (by decide) dX4_ofTerm_91 ?_
      refine a_icmp_ge 101 g18 (rgk 100 (by decide)) (by decide) dX4_ofTerm_93 (fun c19 => ?_) (fun c19 => ?_)
      · have h := h.1 c19
        refine a_aload_n 0 rfl dX4_ofTerm_101 ?_
        refine gfX4_20 dX4_ofTerm_102 ?_
        refine a_iload_n 1 rfl dX4_ofTerm_105 ?_
        obtain ⟨b20, h⟩ := h
        refine ldM_4 dX4_ofTerm_106 b20 (fun g21 => ?_)
        refine a_bipush (by decide) dX4_ofTerm_107 ?_
        obtain ⟨g22, h⟩ := h
        refine a_isub dX4_ofTerm_109 ?_
        exact a_iret rfl dX4_ofTerm_110 g22 h
      · have h := h.2 c19
        refine a_bipush (by decide) dX4_ofTerm_96 ?_
        refine a_goto 110 (by decide) dX4_ofTerm_98 ?_
        exact a_iret rfl dX4_ofTerm_110 (rgk (-9) (by decide)) h
    · have h := h.2.2.2.2.2.1 c5
      refine a_tsIn (b := 4) (off := 100) 111 e2 (by decide) dX4_ofTerm_11 c5 (by decide) (by decide) rfl ?_
      refine a_aload_n 0 rfl dX4_ofTerm_111 ?_
      refine a_iload_n 1 rfl dX4_ofTerm_112 ?_
      refine kX4_154 (Nat.le_of_ble_eq_true rfl) (Nat.le_of_ble_eq_true rfl) dX4_ofTerm_113 (s_X4_isClosed e1 h) (fun r24 M23 g25 h => ?_)
      refine a_if_eq 123 g25 (by decide) dX4_ofTerm_116 (fun c26 => ?_) (fun c26 => ?_)
      · have h := h.1 c26
        refine a_iconst dX4_ofTerm_123 ?_
        exact a_iret rfl dX4_ofTerm_124 (rgk 0 (by decide)) h
      · have h := h.2 c26
        refine a_iconst dX4_ofTerm_119 ?_
        refine a_goto 124 (by decide) dX4_ofTerm_120 ?_
        exact a_iret rfl dX4_ofTerm_124 (rgk 1 (by decide)) h
    · have h := h.2.2.2.2.2.2 c5
      refine a_tsIn (b := 5) (off := 114) 125 e2 (by decide) dX4_ofTerm_11 c5 (by decide) (by decide) rfl ?_
      refine a_aload_n 0 rfl dX4_ofTerm_125 ?_
      refine gfX4_26 dX4_ofTerm_126 ?_
      refine a_iload_n 1 rfl dX4_ofTerm_129 ?_
      obtain ⟨b27, h⟩ := h
      refine ldM_6 dX4_ofTerm_130 b27 (fun g28 => ?_)
      exact a_iret rfl dX4_ofTerm_131 g28 h
  · have h := h.2 c4
    refine a_iconst dX4_ofTerm_8 ?_
    exact a_iret rfl dX4_ofTerm_9 (rgk (-1) (by decide)) h
set_option maxRecDepth 100000 in
theorem s_X4_plainSize {l : Launch} {D : va_G} {ad : Nat → Nat} {cA : Nat → ClassId} {M : Mem} {x1 : Int} {Q : Int → Mem → Prop} (e1 : rg x1) (h : w_X4_plainSize M x1 Q) : AM (xM l D ad cA) yX4_plainSize mX4_plainSize [.ref (ad 0), vi x1] M (qI Q) := by
  refine AM.ofAW (by decide +kernel) rfl (Nat.le_of_ble_eq_true rfl) ?_
  show AW (xM l D ad cA) mX4_plainSize (qI Q) 0 [(0, .ref (ad 0)), (1, vi x1)] [] M
  refine a_aload_n 0 rfl dX4_plainSize_0 ?_
  refine a_iload_n 1 rfl dX4_plainSize_1 ?_
  refine kX4_121 (Nat.le_of_ble_eq_true rfl) (Nat.le_of_ble_eq_true rfl) dX4_plainSize_2 (s_X4_goesThrough e1 h) (fun M1 h => ?_)
  refine a_aload_n 0 rfl dX4_plainSize_5 ?_
  refine gfX4_114 dX4_plainSize_6 (fun g4 => ?_)
  exact a_iret rfl dX4_plainSize_9 g4 h
set_option maxRecDepth 100000 in
theorem s_X4_unfoldedSize_L106 {l : Launch} {D : va_G} {ad : Nat → Nat} {cA : Nat → ClassId} (Q : Int → Mem → Prop) : ∀ (n : Nat) (M : Mem) (x2 : Int) (x3 : Int) (x4 : Int) (x6 : Int), rg x2 → rg x3 → rl x4 → rg x6 → w_X4_unfoldedSize_L106 Q n M x2 x3 x4 x6 → AW (xM l D ad cA) mX4_unfoldedSize (qL Q) 106 [(0, .ref (ad 0)), (2, vi x2), (3, vi x3), (4, vl x4), (6, vi x6)] [] M := by
  intro n
  induction n with
  | zero => intro M x2 x3 x4 x6 e2 e3 e4 e6 h; exact absurd h id
  | succ n ih =>
    intro M x2 x3 x4 x6 e2 e3 e4 e6 h
    refine a_iload 4 rfl dX4_unfoldedSize_106 ?_
    refine a_aload_n 0 rfl dX4_unfoldedSize_108 ?_
    refine gfX4_114 dX4_unfoldedSize_109 (fun g1 => ?_)
    refine a_icmp_ge 165 e6 g1 (by decide) dX4_unfoldedSize_112 (fun c2 => ?_) (fun c2 => ?_)
    · have h := h.1 c2
      refine a_lload 3 rfl dX4_unfoldedSize_165 ?_
      exact a_lret rfl dX4_unfoldedSize_167 e4 h
    · have h := h.2 c2
      refine a_aload_n 0 rfl dX4_unfoldedSize_115 ?_
      refine gfX4_20 dX4_unfoldedSize_116 ?_
      refine a_aload_n 0 rfl dX4_unfoldedSize_119 ?_
      refine gfX4_29 dX4_unfoldedSize_120 ?_
      refine a_iload 4 rfl dX4_unfoldedSize_123 ?_
      obtain ⟨b3, h⟩ := h
      refine ldM_7 dX4_unfoldedSize_125 b3 (fun g4 => ?_)
      obtain ⟨b5, h⟩ := h
      refine ldM_4 dX4_unfoldedSize_126 b5 (fun g6 => ?_)
      refine a_istore (lv' := [(7, vi (M 4 (M 7 x6))), (0, .ref (ad 0)), (2, vi x2), (3, vi x3), (4, vl x4), (6, vi x6)]) (Nat.le_of_ble_eq_true rfl) rfl dX4_unfoldedSize_127 ?_
      refine a_lload 4 rfl dX4_unfoldedSize_129 ?_
      refine a_iload 0 rfl dX4_unfoldedSize_131 ?_
      refine a_bipush (by decide) dX4_unfoldedSize_133 ?_
      refine a_icmp_ge 142 g6 (rgk 100 (by decide)) (by decide) dX4_unfoldedSize_135 (fun c7 => ?_) (fun c7 => ?_)
      · have h := h.1 c7
        refine a_iload 0 rfl dX4_unfoldedSize_142 ?_
        refine a_bipush (by decide) dX4_unfoldedSize_144 ?_
        refine a_icmp_ne 154 g6 (rgk 100 (by decide)) (by decide) dX4_unfoldedSize_146 (fun c8 => ?_) (fun c8 => ?_)
        · have h := h.1 c8
          refine a_iload_n 3 rfl dX4_unfoldedSize_154 ?_
          refine a_i2l e3 dX4_unfoldedSize_155 ?_
          obtain ⟨g9, h⟩ := h
          refine a_ladd dX4_unfoldedSize_156 ?_
          refine a_lstore (lv' := [(4, vl (x4 + x3)), (7, vi (M 4 (M 7 x6))), (0, .ref (ad 0)), (2, vi x2), (3, vi x3), (6, vi x6)]) (Nat.le_of_ble_eq_true rfl) rfl dX4_unfoldedSize_157 ?_
          obtain ⟨g10, h⟩ := h
          refine a_iinc (lv' := [(6, vi (x6 + 1)), (4, vl (x4 + x3)), (7, vi (M 4 (M 7 x6))), (0, .ref (ad 0)), (2, vi x2), (3, vi x3)]) 5 rfl (Nat.le_of_ble_eq_true rfl) rfl dX4_unfoldedSize_159 ?_
          refine a_goto 106 (by decide) dX4_unfoldedSize_162 ?_
          refine AW.pick [3, 4, 5, 1, 0] rfl ?_
          exact ih M x2 x3 (x4 + x3) (x6 + 1) e2 e3 g9 g10 h
        · have h := h.2 c8
          refine a_iload_n 2 rfl dX4_unfoldedSize_149 ?_
          refine a_i2l e2 dX4_unfoldedSize_150 ?_
          refine a_goto 156 (by decide) dX4_unfoldedSize_151 ?_
          obtain ⟨g11, h⟩ := h
          refine a_ladd dX4_unfoldedSize_156 ?_
          refine a_lstore (lv' := [(4, vl (x4 + x2)), (7, vi (M 4 (M 7 x6))), (0, .ref (ad 0)), (2, vi x2), (3, vi x3), (6, vi x6)]) (Nat.le_of_ble_eq_true rfl) rfl dX4_unfoldedSize_157 ?_
          obtain ⟨g12, h⟩ := h
          refine a_iinc (lv' := [(6, vi (x6 + 1)), (4, vl (x4 + x2)), (7, vi (M 4 (M 7 x6))), (0, .ref (ad 0)), (2, vi x2), (3, vi x3)]) 5 rfl (Nat.le_of_ble_eq_true rfl) rfl dX4_unfoldedSize_159 ?_
          refine a_goto 106 (by decide) dX4_unfoldedSize_162 ?_
          refine AW.pick [3, 4, 5, 1, 0] rfl ?_
          exact ih M x2 x3 (x4 + x2) (x6 + 1) e2 e3 g11 g12 h
      · have h := h.2 c7
        refine a_lconst (v := 1) rfl dX4_unfoldedSize_138 ?_
        refine a_goto 156 (by decide) dX4_unfoldedSize_139 ?_
        obtain ⟨g13, h⟩ := h
        refine a_ladd dX4_unfoldedSize_156 ?_
        refine a_lstore (lv' := [(4, vl (x4 + 1)), (7, vi (M 4 (M 7 x6))), (0, .ref (ad 0)), (2, vi x2), (3, vi x3), (6, vi x6)]) (Nat.le_of_ble_eq_true rfl) rfl dX4_unfoldedSize_157 ?_
        obtain ⟨g14, h⟩ := h
        refine a_iinc (lv' := [(6, vi (x6 + 1)), (4, vl (x4 + 1)), (7, vi (M 4 (M 7 x6))), (0, .ref (ad 0)), (2, vi x2), (3, vi x3)]) 5 rfl (Nat.le_of_ble_eq_true rfl) rfl dX4_unfoldedSize_159 ?_
        refine a_goto 106 (by decide) dX4_unfoldedSize_162 ?_
        refine AW.pick [3, 4, 5, 1, 0] rfl ?_
        exact ih M x2 x3 (x4 + 1) (x6 + 1) e2 e3 g13 g14 h
set_option maxRecDepth 100000 in
theorem s_X4_unfoldedSize_J84 {l : Launch} {D : va_G} {ad : Nat → Nat} {cA : Nat → ClassId} (Q : Int → Mem → Prop) (M : Mem) (x1 : Int) (x2 : Int) (y0 : Int) (e1 : rg x1) (e2 : rg x2) (f0 : rg y0) (h : w_X4_unfoldedSize_J84 Q M x1 x2 y0) : AW (xM l D ad cA) mX4_unfoldedSize (qL Q) 84 [(0, .ref (ad 0)), (1, vi x1), (2, vi x2)] [vi y0] M := by
  refine a_istore_n (lv' := [(3, vi y0), (0, .ref (ad 0)), (1, vi x1), (2, vi x2)]) (Nat.le_of_ble_eq_true rfl) rfl dX4_unfoldedSize_84 ?_
  refine a_aload_n 1 rfl dX4_unfoldedSize_85 ?_
  refine a_aload_n 1 rfl dX4_unfoldedSize_86 ?_
  refine gfX4_13 dX4_unfoldedSize_87 ?_
  refine a_aload_n 1 rfl dX4_unfoldedSize_90 ?_
  refine gfX4_20 dX4_unfoldedSize_91 ?_
  refine a_iload_n 2 rfl dX4_unfoldedSize_94 ?_
  obtain ⟨b1, h⟩ := h
  refine ldM_4 dX4_unfoldedSize_95 b1 (fun g2 => ?_)
  obtain ⟨b3, h⟩ := h
  refine ldM_2 dX4_unfoldedSize_96 b3 (fun g4 => ?_)
  refine kX4_121 (Nat.le_of_ble_eq_true rfl) (Nat.le_of_ble_eq_true rfl) dX4_unfoldedSize_97 (s_X4_goesThrough g4 h) (fun M5 h => ?_)
  refine a_lconst (v := 0) rfl dX4_unfoldedSize_100 ?_
  refine a_lstore (lv' := [(4, vl 0), (3, vi y0), (0, .ref (ad 0)), (1, vi x1), (2, vi x2)]) (Nat.le_of_ble_eq_true rfl) rfl dX4_unfoldedSize_101 ?_
  refine a_iconst dX4_unfoldedSize_103 ?_
  refine a_istore (lv' := [(6, vi 0), (4, vl 0), (3, vi y0), (0, .ref (ad 0)), (1, vi x1), (2, vi x2)]) (Nat.le_of_ble_eq_true rfl) rfl dX4_unfoldedSize_104 ?_
  obtain ⟨n106, h⟩ := h
  refine AW.pick [3, 5, 2, 1, 0] rfl ?_
  exact s_X4_unfoldedSize_L106 Q n106 M5 x2 y0 0 0 e2 f0 (rlk 0 (by decide)) (rgk 0 (by decide)) h
set_option maxRecDepth 100000 in
theorem s_X4_unfoldedSize_J54 {l : Launch} {D : va_G} {ad : Nat → Nat} {cA : Nat → ClassId} (Q : Int → Mem → Prop) (M : Mem) (x1 : Int) (y0 : Int) (e1 : rg x1) (f0 : rg y0) (h : w_X4_unfoldedSize_J54 Q M x1 y0) : AW (xM l D ad cA) mX4_unfoldedSize (qL Q) 54 [(0, .ref (ad 0)), (1, vi x1)] [vi y0] M := by
  refine a_istore_n (lv' := [(2, vi y0), (0, .ref (ad 0)), (1, vi x1)]) (Nat.le_of_ble_eq_true rfl) rfl dX4_unfoldedSize_54 ?_
  refine a_aload_n 1 rfl dX4_unfoldedSize_55 ?_
  refine gfX4_7 dX4_unfoldedSize_56 ?_
  refine a_aload_n 1 rfl dX4_unfoldedSize_59 ?_
  refine gfX4_20 dX4_unfoldedSize_60 ?_
  refine a_iload_n 2 rfl dX4_unfoldedSize_63 ?_
  obtain ⟨b1, h⟩ := h
  refine ldM_4 dX4_unfoldedSize_64 b1 (fun g2 => ?_)
  obtain ⟨b3, h⟩ := h
  refine ldM_1 dX4_unfoldedSize_65 b3 (fun g4 => ?_)
  refine a_iconst dX4_unfoldedSize_66 ?_
  refine a_icmp_le 83 g4 (rgk 1 (by decide)) (by decide) dX4_unfoldedSize_67 (fun c5 => ?_) (fun c5 => ?_)
  · have h := h.1 c5
    refine a_iconst dX4_unfoldedSize_83 ?_
    refine AW.pick [1, 2, 0] rfl ?_
    exact s_X4_unfoldedSize_J84 Q M x1 y0 0 e1 f0 (rgk 0 (by decide)) h
  · have h := h.2 c5
    refine a_aload_n 1 rfl dX4_unfoldedSize_70 ?_
    refine a_aload_n 1 rfl dX4_unfoldedSize_71 ?_
    refine a_iload_n 2 rfl dX4_unfoldedSize_72 ?_
    refine a_iconst dX4_unfoldedSize_73 ?_
    refine kX4_90 (Nat.le_of_ble_eq_true rfl) (Nat.le_of_ble_eq_true rfl) dX4_unfoldedSize_74 (s_X4_part e1 (rgk 1 (by decide)) h) (fun r7 M6 g8 h => ?_)
    refine kX4_157 (Nat.le_of_ble_eq_true rfl) (Nat.le_of_ble_eq_true rfl) dX4_unfoldedSize_77 (s_X4_plainSize g8 h) (fun r10 M9 g11 h => ?_)
    refine a_goto 84 (by decide) dX4_unfoldedSize_80 ?_
    refine AW.pick [1, 2, 0] rfl ?_
    exact s_X4_unfoldedSize_J84 Q M9 x1 y0 r10 e1 f0 g11 h
set_option maxRecDepth 100000 in
theorem s_X4_unfoldedSize {l : Launch} {D : va_G} {ad : Nat → Nat} {cA : Nat → ClassId} {M : Mem} {x1 : Int} {Q : Int → Mem → Prop} (e1 : rg x1) (h : w_X4_unfoldedSize M x1 Q) : AM (xM l D ad cA) yX4_unfoldedSize mX4_unfoldedSize [.ref (ad 0), vi x1] M (qL Q) := by
  refine AM.ofAW (by decide +kernel) rfl (Nat.le_of_ble_eq_true rfl) ?_
  show AW (xM l D ad cA) mX4_unfoldedSize (qL Q) 0 [(0, .ref (ad 0)), (1, vi x1)] [] M
  refine a_aload_n 0 rfl dX4_unfoldedSize_0 ?_
  refine gfX4_20 dX4_unfoldedSize_1 ?_
  refine a_iload_n 1 rfl dX4_unfoldedSize_4 ?_
  obtain ⟨b1, h⟩ := h
  refine ldM_4 dX4_unfoldedSize_5 b1 (fun g2 => ?_)
  refine a_bipush (by decide) dX4_unfoldedSize_6 ?_
  refine a_icmp_ge 24 g2 (rgk 100 (by decide)) (by decide) dX4_unfoldedSize_8 (fun c3 => ?_) (fun c3 => ?_)
  · have h := h.1 c3
    refine a_lconst (v := 0) rfl dX4_unfoldedSize_24 ?_
    exact a_lret rfl dX4_unfoldedSize_25 (rlk 0 (by decide)) h
  · have h := h.2 c3
    refine a_aload_n 0 rfl dX4_unfoldedSize_11 ?_
    refine a_aload_n 0 rfl dX4_unfoldedSize_12 ?_
    refine gfX4_20 dX4_unfoldedSize_13 ?_
    refine a_iload_n 1 rfl dX4_unfoldedSize_16 ?_
    obtain ⟨b4, h⟩ := h
    refine ldM_4 dX4_unfoldedSize_17 b4 (fun g5 => ?_)
    refine kX4_139 (Nat.le_of_ble_eq_true rfl) (Nat.le_of_ble_eq_true rfl) dX4_unfoldedSize_18 (s_X4_isFolded g5 h) (fun r7 M6 g8 h => ?_)
    refine a_if_ne 26 g8 (by decide) dX4_unfoldedSize_21 (fun c9 => ?_) (fun c9 => ?_)
    · have h := h.1 c9
      refine a_aload_n 0 rfl dX4_unfoldedSize_26 ?_
      refine gfX4_7 dX4_unfoldedSize_27 ?_
      refine a_aload_n 0 rfl dX4_unfoldedSize_30 ?_
      refine gfX4_20 dX4_unfoldedSize_31 ?_
      refine a_iload_n 1 rfl dX4_unfoldedSize_34 ?_
      obtain ⟨b10, h⟩ := h
      refine ldM_4 dX4_unfoldedSize_35 b10 (fun g11 => ?_)
      obtain ⟨b12, h⟩ := h
      refine ldM_1 dX4_unfoldedSize_36 b12 (fun g13 => ?_)
      refine a_if_le 53 g13 (by decide) dX4_unfoldedSize_37 (fun c14 => ?_) (fun c14 => ?_)
      · have h := h.1 c14
        refine a_iconst dX4_unfoldedSize_53 ?_
        refine AW.pick [0, 1] rfl ?_
        exact s_X4_unfoldedSize_J54 Q M6 x1 0 e1 (rgk 0 (by decide)) h
      · have h := h.2 c14
        refine a_aload_n 0 rfl dX4_unfoldedSize_40 ?_
        refine a_aload_n 0 rfl dX4_unfoldedSize_41 ?_
        refine a_iload_n 1 rfl dX4_unfoldedSize_42 ?_
        refine a_iconst dX4_unfoldedSize_43 ?_
        refine kX4_90 (Nat.le_of_ble_eq_true rfl) (Nat.le_of_ble_eq_true rfl) dX4_unfoldedSize_44 (s_X4_part e1 (rgk 0 (by decide)) h) (fun r16 M15 g17 h => ?_)
        refine kX4_157 (Nat.le_of_ble_eq_true rfl) (Nat.le_of_ble_eq_true rfl) dX4_unfoldedSize_47 (s_X4_plainSize g17 h) (fun r19 M18 g20 h => ?_)
        refine a_goto 54 (by decide) dX4_unfoldedSize_50 ?_
        refine AW.pick [0, 1] rfl ?_
        exact s_X4_unfoldedSize_J54 Q M18 x1 r19 e1 g20 h
    · have h := h.2 c9
      refine a_lconst (v := 0) rfl dX4_unfoldedSize_24 ?_
      exact a_lret rfl dX4_unfoldedSize_25 (rlk 0 (by decide)) h
set_option maxRecDepth 100000 in
theorem s_X4_weighsAll_L16 {l : Launch} {D : va_G} {ad : Nat → Nat} {cA : Nat → ClassId} (Q : Mem → Prop) : ∀ (n : Nat) (M : Mem) (x2 : Int), rg x2 → w_X4_weighsAll_L16 Q n M x2 → AW (xM l D ad cA) mX4_weighsAll (qV Q) 16 [(0, .ref (ad 0)), (2, vi x2)] [] M := by
  intro n
  induction n with
  | zero => intro M x2 e2 h; exact absurd h id
  | succ n ih =>
    intro M x2 e2 h
    refine a_iload_n 1 rfl dX4_weighsAll_16 ?_
    refine a_if_lt 36 e2 (by decide) dX4_weighsAll_17 (fun c1 => ?_) (fun c1 => ?_)
    · have h := h.1 c1
      exact a_vret rfl dX4_weighsAll_36 h
    · have h := h.2 c1
      refine a_aload_n 0 rfl dX4_weighsAll_20 ?_
      refine a_aload_n 0 rfl dX4_weighsAll_21 ?_
      refine gfX4_29 dX4_weighsAll_22 ?_
      refine a_iload_n 1 rfl dX4_weighsAll_25 ?_
      obtain ⟨b2, h⟩ := h
      refine ldM_7 dX4_weighsAll_26 b2 (fun g3 => ?_)
      refine kX4_142 (Nat.le_of_ble_eq_true rfl) (Nat.le_of_ble_eq_true rfl) dX4_weighsAll_27 (s_X4_weighs g3 h) (fun M4 h => ?_)
      obtain ⟨g7, h⟩ := h
      refine a_iinc (lv' := [(2, vi (x2 + (-1))), (0, .ref (ad 0))]) 1 rfl (Nat.le_of_ble_eq_true rfl) rfl dX4_weighsAll_30 ?_
      refine a_goto 16 (by decide) dX4_weighsAll_33 ?_
      refine AW.pick [1, 0] rfl ?_
      exact ih M4 (x2 + (-1)) g7 h
set_option maxRecDepth 100000 in
theorem s_X4_weighsAll {l : Launch} {D : va_G} {ad : Nat → Nat} {cA : Nat → ClassId} {M : Mem} {x1 : Int} {Q : Mem → Prop} (e1 : rg x1) (h : w_X4_weighsAll M x1 Q) : AM (xM l D ad cA) yX4_weighsAll mX4_weighsAll [.ref (ad 0), vi x1] M (qV Q) := by
  refine AM.ofAW (by decide +kernel) rfl (Nat.le_of_ble_eq_true rfl) ?_
  show AW (xM l D ad cA) mX4_weighsAll (qV Q) 0 [(0, .ref (ad 0)), (1, vi x1)] [] M
  refine a_aload_n 0 rfl dX4_weighsAll_0 ?_
  refine kX4_151 (Nat.le_of_ble_eq_true rfl) (Nat.le_of_ble_eq_true rfl) dX4_weighsAll_1 (s_X4_findNames h) (fun M1 h => ?_)
  refine a_aload_n 0 rfl dX4_weighsAll_4 ?_
  refine a_iload_n 1 rfl dX4_weighsAll_5 ?_
  refine kX4_121 (Nat.le_of_ble_eq_true rfl) (Nat.le_of_ble_eq_true rfl) dX4_weighsAll_6 (s_X4_goesThrough e1 h) (fun M4 h => ?_)
  refine a_aload_n 0 rfl dX4_weighsAll_9 ?_
  refine gfX4_114 dX4_weighsAll_10 (fun g7 => ?_)
  refine a_iconst dX4_weighsAll_13 ?_
  obtain ⟨g8, h⟩ := h
  refine a_isub dX4_weighsAll_14 ?_
  refine a_istore_n (lv' := [(2, vi ((M4 0 9) - 1)), (0, .ref (ad 0)), (1, vi x1)]) (Nat.le_of_ble_eq_true rfl) rfl dX4_weighsAll_15 ?_
  obtain ⟨n16, h⟩ := h
  refine AW.pick [1, 0] rfl ?_
  exact s_X4_weighsAll_L16 Q n16 M4 ((M4 0 9) - 1) g8 h
set_option maxRecDepth 100000 in
theorem s_X4_size {l : Launch} {D : va_G} {ad : Nat → Nat} {cA : Nat → ClassId} {M : Mem} {x1 : Int} {x2 : Int} {Q : Int → Mem → Prop} (e1 : rg x1) (e2 : rg x2) (h : w_X4_size M x1 x2 Q) : AM (xM l D ad cA) yX4_size mX4_size [.ref (ad 0), vi x1, vi x2] M (qL Q) := by
  refine AM.ofAW (by decide +kernel) rfl (Nat.le_of_ble_eq_true rfl) ?_
  show AW (xM l D ad cA) mX4_size (qL Q) 0 [(0, .ref (ad 0)), (1, vi x1), (2, vi x2)] [] M
  refine a_aload_n 0 rfl dX4_size_0 ?_
  refine a_iload_n 1 rfl dX4_size_1 ?_
  refine kX4_111 (Nat.le_of_ble_eq_true rfl) (Nat.le_of_ble_eq_true rfl) dX4_size_2 (s_X4_isTerm e1 h) (fun r2 M1 g3 h => ?_)
  refine a_if_eq 17 g3 (by decide) dX4_size_5 (fun c4 => ?_) (fun c4 => ?_)
  · have h := h.1 c4
    refine a_ldc2 (n := (-9223372036854775808)) (v := (-9223372036854775808)) (gtb_in (by decide +kernel) rfl) rfl dX4_size_17 ?_
    exact a_lret rfl dX4_size_20 (rlk (-9223372036854775808) (by decide)) h
  · have h := h.2 c4
    refine a_iload_n 2 rfl dX4_size_8 ?_
    refine a_iconst dX4_size_9 ?_
    refine a_iconst dX4_size_10 ?_
    refine kX4_80 (Nat.le_of_ble_eq_true rfl) (Nat.le_of_ble_eq_true rfl) dX4_size_11 (s_X4_within e2 (rgk 0 (by decide)) (rgk 3 (by decide)) h) (fun r6 M5 g7 h => ?_)
    refine a_if_ne 21 g7 (by decide) dX4_size_14 (fun c8 => ?_) (fun c8 => ?_)
    · have h := h.1 c8
      refine a_iload_n 2 rfl dX4_size_21 ?_
      refine a_iconst dX4_size_22 ?_
      refine a_icmp_ge 45 e2 (rgk 2 (by decide)) (by decide) dX4_size_23 (fun c9 => ?_) (fun c9 => ?_)
      · have h := h.1 c9
        refine a_aload_n 0 rfl dX4_size_45 ?_
        refine a_iload_n 1 rfl dX4_size_46 ?_
        refine kX4_166 (Nat.le_of_ble_eq_true rfl) (Nat.le_of_ble_eq_true rfl) dX4_size_47 (s_X4_weighsAll e1 h) (fun M10 h => ?_)
        refine a_iload_n 2 rfl dX4_size_50 ?_
        refine a_iconst dX4_size_51 ?_
        refine a_icmp_ne 64 e2 (rgk 3 (by decide)) (by decide) dX4_size_52 (fun c13 => ?_) (fun c13 => ?_)
        · have h := h.1 c13
          refine a_aload_n 0 rfl dX4_size_64 ?_
          refine gfX4_48 dX4_size_65 ?_
          refine a_iload_n 1 rfl dX4_size_68 ?_
          obtain ⟨b14, h⟩ := h
          refine ldM_13 dX4_size_69 b14 (fun g15 => ?_)
          refine a_aload_n 0 rfl dX4_size_70 ?_
          refine gfX4_51 dX4_size_71 ?_
          refine a_iconst dX4_size_74 ?_
          refine a_iload_n 1 rfl dX4_size_75 ?_
          obtain ⟨g16, h⟩ := h
          refine a_imul dX4_size_76 ?_
          obtain ⟨b17, h⟩ := h
          refine ldM_14 dX4_size_77 b17 (fun g18 => ?_)
          obtain ⟨g19, h⟩ := h
          refine a_ladd dX4_size_78 ?_
          refine a_aload_n 0 rfl dX4_size_79 ?_
          refine gfX4_51 dX4_size_80 ?_
          refine a_iconst dX4_size_83 ?_
          refine a_iload_n 1 rfl dX4_size_84 ?_
          obtain ⟨g20, h⟩ := h
          refine a_imul dX4_size_85 ?_
          refine a_iconst dX4_size_86 ?_
          obtain ⟨g21, h⟩ := h
          refine a_iadd dX4_size_87 ?_
          obtain ⟨b22, h⟩ := h
          refine ldM_14 dX4_size_88 b22 (fun g23 => ?_)
          obtain ⟨g24, h⟩ := h
          refine a_ladd dX4_size_89 ?_
          refine kX4_131 (Nat.le_of_ble_eq_true rfl) (Nat.le_of_ble_eq_true rfl) dX4_size_90 (s_X4_atMost g24 h) (fun r26 M25 g27 h => ?_)
          exact a_lret rfl dX4_size_93 g27 h
        · have h := h.2 c13
          refine a_aload_n 0 rfl dX4_size_55 ?_
          refine gfX4_54 dX4_size_56 ?_
          refine a_iload_n 1 rfl dX4_size_59 ?_
          obtain ⟨b28, h⟩ := h
          refine ldM_15 dX4_size_60 b28 (fun g29 => ?_)
          refine a_goto 93 (by decide) dX4_size_61 ?_
          exact a_lret rfl dX4_size_93 g29 h
      · have h := h.2 c9
        refine a_iload_n 2 rfl dX4_size_26 ?_
        refine a_if_ne 39 e2 (by decide) dX4_size_27 (fun c30 => ?_) (fun c30 => ?_)
        · have h := h.1 c30
          refine a_aload_n 0 rfl dX4_size_39 ?_
          refine a_iload_n 1 rfl dX4_size_40 ?_
          refine kX4_162 (Nat.le_of_ble_eq_true rfl) (Nat.le_of_ble_eq_true rfl) dX4_size_41 (s_X4_unfoldedSize e1 h) (fun r32 M31 g33 h => ?_)
          exact a_lret rfl dX4_size_44 g33 h
        · have h := h.2 c30
          refine a_aload_n 0 rfl dX4_size_30 ?_
          refine a_iload_n 1 rfl dX4_size_31 ?_
          refine kX4_157 (Nat.le_of_ble_eq_true rfl) (Nat.le_of_ble_eq_true rfl) dX4_size_32 (s_X4_plainSize e1 h) (fun r35 M34 g36 h => ?_)
          refine a_i2l g36 dX4_size_35 ?_
          refine a_goto 44 (by decide) dX4_size_36 ?_
          exact a_lret rfl dX4_size_44 (rl_g g36) h
    · have h := h.2 c8
      refine a_ldc2 (n := (-9223372036854775808)) (v := (-9223372036854775808)) (gtb_in (by decide +kernel) rfl) rfl dX4_size_17 ?_
      exact a_lret rfl dX4_size_20 (rlk (-9223372036854775808) (by decide)) h
set_option maxRecDepth 100000 in
theorem s_X4_front {l : Launch} {D : va_G} {ad : Nat → Nat} {cA : Nat → ClassId} {M : Mem} {x1 : Int} {Q : Int → Mem → Prop} (e1 : rg x1) (h : w_X4_front M x1 Q) : AM (xM l D ad cA) yX4_front mX4_front [.ref (ad 0), vi x1] M (qI Q) := by
  refine AM.ofAW (by decide +kernel) rfl (Nat.le_of_ble_eq_true rfl) ?_
  show AW (xM l D ad cA) mX4_front (qI Q) 0 [(0, .ref (ad 0)), (1, vi x1)] [] M
  refine a_aload_n 0 rfl dX4_front_0 ?_
  refine a_iload_n 1 rfl dX4_front_1 ?_
  refine kX4_111 (Nat.le_of_ble_eq_true rfl) (Nat.le_of_ble_eq_true rfl) dX4_front_2 (s_X4_isTerm e1 h) (fun r2 M1 g3 h => ?_)
  refine a_if_ne 10 g3 (by decide) dX4_front_5 (fun c4 => ?_) (fun c4 => ?_)
  · have h := h.1 c4
    refine a_aload_n 0 rfl dX4_front_10 ?_
    refine kX4_151 (Nat.le_of_ble_eq_true rfl) (Nat.le_of_ble_eq_true rfl) dX4_front_11 (s_X4_findNames h) (fun M5 h => ?_)
    refine a_aload_n 0 rfl dX4_front_14 ?_
    refine a_iload_n 1 rfl dX4_front_15 ?_
    refine kX4_145 (Nat.le_of_ble_eq_true rfl) (Nat.le_of_ble_eq_true rfl) dX4_front_16 (s_X4_headNow e1 h) (fun r9 M8 g10 h => ?_)
    exact a_iret rfl dX4_front_19 g10 h
  · have h := h.2 c4
    refine a_iconst dX4_front_8 ?_
    exact a_iret rfl dX4_front_9 (rgk (-1) (by decide)) h
set_option maxRecDepth 100000 in
theorem s_X4_firstPart_L4 {l : Launch} {D : va_G} {ad : Nat → Nat} {cA : Nat → ClassId} (Q : Int → Mem → Prop) : ∀ (n : Nat) (M : Mem) (x1 : Int) (x2 : Int) (x3 : Int), rg x1 → rg x2 → rg x3 → w_X4_firstPart_L4 Q n M x1 x2 x3 → AW (xM l D ad cA) mX4_firstPart (qI Q) 4 [(0, .ref (ad 0)), (1, vi x1), (2, vi x2), (3, vi x3)] [] M := by
  intro n
  induction n with
  | zero => intro M x1 x2 x3 e1 e2 e3 h; exact absurd h id
  | succ n ih =>
    intro M x1 x2 x3 e1 e2 e3 h
    refine a_iload_n 3 rfl dX4_firstPart_4 ?_
    refine a_iload_n 1 rfl dX4_firstPart_5 ?_
    refine a_icmp_ge 28 e3 e1 (by decide) dX4_firstPart_6 (fun c1 => ?_) (fun c1 => ?_)
    · have h := h.1 c1
      refine a_iload_n 2 rfl dX4_firstPart_28 ?_
      exact a_iret rfl dX4_firstPart_29 e2 h
    · have h := h.2 c1
      refine a_iload_n 2 rfl dX4_firstPart_9 ?_
      refine a_aload_n 0 rfl dX4_firstPart_10 ?_
      refine a_aload_n 0 rfl dX4_firstPart_11 ?_
      refine gfX4_29 dX4_firstPart_12 ?_
      refine a_iload_n 3 rfl dX4_firstPart_15 ?_
      obtain ⟨b2, h⟩ := h
      refine ldM_7 dX4_firstPart_16 b2 (fun g3 => ?_)
      refine kX4_117 (Nat.le_of_ble_eq_true rfl) (Nat.le_of_ble_eq_true rfl) dX4_firstPart_17 (s_X4_partsOf g3 h) (fun r5 M4 g6 h => ?_)
      obtain ⟨g7, h⟩ := h
      refine a_iadd dX4_firstPart_20 ?_
      refine a_istore_n (lv' := [(2, vi (x2 + r5)), (0, .ref (ad 0)), (1, vi x1), (3, vi x3)]) (Nat.le_of_ble_eq_true rfl) rfl dX4_firstPart_21 ?_
      obtain ⟨g8, h⟩ := h
      refine a_iinc (lv' := [(3, vi (x3 + 1)), (2, vi (x2 + r5)), (0, .ref (ad 0)), (1, vi x1)]) 3 rfl (Nat.le_of_ble_eq_true rfl) rfl dX4_firstPart_22 ?_
      refine a_goto 4 (by decide) dX4_firstPart_25 ?_
      refine AW.pick [2, 3, 1, 0] rfl ?_
      exact ih M4 x1 (x2 + r5) (x3 + 1) e1 g7 g8 h
set_option maxRecDepth 100000 in
theorem s_X4_firstPart {l : Launch} {D : va_G} {ad : Nat → Nat} {cA : Nat → ClassId} {M : Mem} {x1 : Int} {Q : Int → Mem → Prop} (e1 : rg x1) (h : w_X4_firstPart M x1 Q) : AM (xM l D ad cA) yX4_firstPart mX4_firstPart [.ref (ad 0), vi x1] M (qI Q) := by
  refine AM.ofAW (by decide +kernel) rfl (Nat.le_of_ble_eq_true rfl) ?_
  show AW (xM l D ad cA) mX4_firstPart (qI Q) 0 [(0, .ref (ad 0)), (1, vi x1)] [] M
  refine a_iconst dX4_firstPart_0 ?_
  refine a_istore_n (lv' := [(2, vi 1), (0, .ref (ad 0)), (1, vi x1)]) (Nat.le_of_ble_eq_true rfl) rfl dX4_firstPart_1 ?_
  refine a_iconst dX4_firstPart_2 ?_
  refine a_istore_n (lv' := [(3, vi 0), (2, vi 1), (0, .ref (ad 0)), (1, vi x1)]) (Nat.le_of_ble_eq_true rfl) rfl dX4_firstPart_3 ?_
  obtain ⟨n4, h⟩ := h
  refine AW.pick [2, 3, 1, 0] rfl ?_
  exact s_X4_firstPart_L4 Q n4 M x1 1 0 e1 (rgk 1 (by decide)) (rgk 0 (by decide)) h
set_option maxRecDepth 100000 in
theorem s_X4_unfolds_J131 {l : Launch} {D : va_G} {ad : Nat → Nat} {cA : Nat → ClassId} (Q : Int → Mem → Prop) (K37 : Mem → Int → Int → Prop) (hK37 : ∀ (M : Mem) (x1 : Int) (x3 : Int), rg x1 → rg x3 → K37 M x1 x3 → AW (xM l D ad cA) mX4_unfolds (qI Q) 37 [(0, .ref (ad 0)), (1, vi x1), (2, .ref (ad 17)), (3, vi x3)] [] M) (M : Mem) (x1 : Int) (x3 : Int) (x5 : Int) (x7 : Int) (y0 : Int) (e1 : rg x1) (e3 : rg x3) (e5 : rg x5) (e7 : rg x7) (f0 : rg y0) (h : w_X4_unfolds_J131 Q K37 M x1 x3 x5 x7 y0) : AW (xM l D ad cA) mX4_unfolds (qI Q) 131 [(0, .ref (ad 0)), (1, vi x1), (2, .ref (ad 17)), (3, vi x3), (5, vi x5), (7, vi x7)] [vi y0] M := by
  refine a_istore (lv' := [(8, vi y0), (0, .ref (ad 0)), (1, vi x1), (2, .ref (ad 17)), (3, vi x3), (5, vi x5), (7, vi x7)]) (Nat.le_of_ble_eq_true rfl) rfl dX4_unfolds_131 ?_
  refine a_aload_n 3 rfl dX4_unfolds_133 ?_
  refine a_iload_n 4 rfl dX4_unfolds_134 ?_
  refine a_aload_n 1 rfl dX4_unfolds_135 ?_
  refine a_iload 5 rfl dX4_unfolds_136 ?_
  refine a_iload 6 rfl dX4_unfolds_138 ?_
  refine a_iload 0 rfl dX4_unfolds_140 ?_
  refine kX4_101 (Nat.le_of_ble_eq_true rfl) (Nat.le_of_ble_eq_true rfl) dX4_unfolds_142 (s_X4_comes e5 e7 f0 h) (fun r2 M1 g3 h => ?_)
  obtain ⟨b4, h⟩ := h
  refine stM_17 dX4_unfolds_145 b4 g3 ?_
  obtain ⟨g5, h⟩ := h
  refine a_iinc (lv' := [(3, vi (x3 + (-1))), (8, vi y0), (0, .ref (ad 0)), (1, vi x1), (2, .ref (ad 17)), (5, vi x5), (7, vi x7)]) 4 rfl (Nat.le_of_ble_eq_true rfl) rfl dX4_unfolds_146 ?_
  refine a_goto 37 (by decide) dX4_unfolds_149 ?_
  refine AW.pick [2, 3, 4, 0] rfl ?_
  exact hK37 (up M1 17 x3 r2) x1 (x3 + (-1)) e1 g5 h
set_option maxRecDepth 100000 in
theorem s_X4_unfolds_J107 {l : Launch} {D : va_G} {ad : Nat → Nat} {cA : Nat → ClassId} (Q : Int → Mem → Prop) (K37 : Mem → Int → Int → Prop) (hK37 : ∀ (M : Mem) (x1 : Int) (x3 : Int), rg x1 → rg x3 → K37 M x1 x3 → AW (xM l D ad cA) mX4_unfolds (qI Q) 37 [(0, .ref (ad 0)), (1, vi x1), (2, .ref (ad 17)), (3, vi x3)] [] M) (M : Mem) (x1 : Int) (x3 : Int) (x5 : Int) (x6 : Int) (y0 : Int) (e1 : rg x1) (e3 : rg x3) (e5 : rg x5) (e6 : rg x6) (f0 : rg y0) (h : w_X4_unfolds_J107 Q K37 M x1 x3 x5 x6 y0) : AW (xM l D ad cA) mX4_unfolds (qI Q) 107 [(0, .ref (ad 0)), (1, vi x1), (2, .ref (ad 17)), (3, vi x3), (5, vi x5), (6, vi x6)] [vi y0] M := by
  refine a_istore (lv' := [(7, vi y0), (0, .ref (ad 0)), (1, vi x1), (2, .ref (ad 17)), (3, vi x3), (5, vi x5), (6, vi x6)]) (Nat.le_of_ble_eq_true rfl) rfl dX4_unfolds_107 ?_
  refine a_aload_n 1 rfl dX4_unfolds_109 ?_
  refine gfX4_7 dX4_unfolds_110 ?_
  refine a_iload 5 rfl dX4_unfolds_113 ?_
  obtain ⟨b1, h⟩ := h
  refine ldM_1 dX4_unfolds_115 b1 (fun g2 => ?_)
  refine a_iconst dX4_unfolds_116 ?_
  refine a_icmp_le 129 g2 (rgk 1 (by decide)) (by decide) dX4_unfolds_117 (fun c3 => ?_) (fun c3 => ?_)
  · have h := h.1 c3
    refine a_bipush (by decide) dX4_unfolds_129 ?_
    refine AW.pick [1, 2, 3, 4, 5, 0] rfl ?_
    exact s_X4_unfolds_J131 Q K37 hK37 M x1 x3 x5 y0 (-9) e1 e3 e5 f0 (rgk (-9) (by decide)) h
  · have h := h.2 c3
    refine a_aload_n 3 rfl dX4_unfolds_120 ?_
    refine a_iload 6 rfl dX4_unfolds_121 ?_
    refine a_iconst dX4_unfolds_123 ?_
    obtain ⟨g4, h⟩ := h
    refine a_iadd dX4_unfolds_124 ?_
    obtain ⟨b5, h⟩ := h
    refine ldM_17 dX4_unfolds_125 b5 (fun g6 => ?_)
    refine a_goto 131 (by decide) dX4_unfolds_126 ?_
    refine AW.pick [1, 2, 3, 4, 5, 0] rfl ?_
    exact s_X4_unfolds_J131 Q K37 hK37 M x1 x3 x5 y0 (M 17 (x6 + 1)) e1 e3 e5 f0 g6 h
set_option maxRecDepth 100000 in
theorem s_X4_unfolds_L37 {l : Launch} {D : va_G} {ad : Nat → Nat} {cA : Nat → ClassId} (Q : Int → Mem → Prop) : ∀ (n : Nat) (M : Mem) (x1 : Int) (x3 : Int), rg x1 → rg x3 → w_X4_unfolds_L37 Q n M x1 x3 → AW (xM l D ad cA) mX4_unfolds (qI Q) 37 [(0, .ref (ad 0)), (1, vi x1), (2, .ref (ad 17)), (3, vi x3)] [] M := by
  intro n
  induction n with
  | zero => intro M x1 x3 e1 e3 h; exact absurd h id
  | succ n ih =>
    intro M x1 x3 e1 e3 h
    refine a_iload_n 3 rfl dX4_unfolds_37 ?_
    refine a_if_lt 152 e3 (by decide) dX4_unfolds_38 (fun c1 => ?_) (fun c1 => ?_)
    · have h := h.1 c1
      refine a_aload_n 2 rfl dX4_unfolds_152 ?_
      refine a_iconst dX4_unfolds_153 ?_
      obtain ⟨b2, h⟩ := h
      refine ldM_17 dX4_unfolds_154 b2 (fun g3 => ?_)
      exact a_iret rfl dX4_unfolds_155 g3 h
    · have h := h.2 c1
      refine a_aload_n 0 rfl dX4_unfolds_41 ?_
      refine gfX4_29 dX4_unfolds_42 ?_
      refine a_iload_n 3 rfl dX4_unfolds_45 ?_
      obtain ⟨b4, h⟩ := h
      refine ldM_7 dX4_unfolds_46 b4 (fun g5 => ?_)
      refine a_istore (lv' := [(4, vi (M 7 x3)), (0, .ref (ad 0)), (1, vi x1), (2, .ref (ad 17)), (3, vi x3)]) (Nat.le_of_ble_eq_true rfl) rfl dX4_unfolds_47 ?_
      refine a_aload_n 1 rfl dX4_unfolds_49 ?_
      refine gfX4_20 dX4_unfolds_50 ?_
      refine a_iload 0 rfl dX4_unfolds_53 ?_
      obtain ⟨b6, h⟩ := h
      refine ldM_4 dX4_unfolds_55 b6 (fun g7 => ?_)
      refine a_istore (lv' := [(5, vi (M 4 (M 7 x3))), (4, vi (M 7 x3)), (0, .ref (ad 0)), (1, vi x1), (2, .ref (ad 17)), (3, vi x3)]) (Nat.le_of_ble_eq_true rfl) rfl dX4_unfolds_56 ?_
      refine a_iload 0 rfl dX4_unfolds_58 ?_
      refine a_bipush (by decide) dX4_unfolds_60 ?_
      refine a_icmp_lt 81 g7 (rgk 100 (by decide)) (by decide) dX4_unfolds_62 (fun c8 => ?_) (fun c8 => ?_)
      · have h := h.1 c8
        refine a_aload_n 2 rfl dX4_unfolds_81 ?_
        refine a_iload_n 5 rfl dX4_unfolds_82 ?_
        refine kX4_172 (Nat.le_of_ble_eq_true rfl) (Nat.le_of_ble_eq_true rfl) dX4_unfolds_83 (s_X4_firstPart e3 h) (fun r10 M9 g11 h => ?_)
        refine a_istore (lv' := [(6, vi r10), (5, vi (M 4 (M 7 x3))), (4, vi (M 7 x3)), (0, .ref (ad 0)), (1, vi x1), (2, .ref (ad 17)), (3, vi x3)]) (Nat.le_of_ble_eq_true rfl) rfl dX4_unfolds_86 ?_
        refine a_aload_n 3 rfl dX4_unfolds_88 ?_
        refine gfX4_7 dX4_unfolds_89 ?_
        refine a_iload 1 rfl dX4_unfolds_92 ?_
        obtain ⟨b12, h⟩ := h
        refine ldM_1 dX4_unfolds_94 b12 (fun g13 => ?_)
        refine a_if_le 105 g13 (by decide) dX4_unfolds_95 (fun c14 => ?_) (fun c14 => ?_)
        · have h := h.1 c14
          refine a_bipush (by decide) dX4_unfolds_105 ?_
          refine AW.pick [3, 4, 5, 6, 1, 0] rfl ?_
          exact s_X4_unfolds_J107 Q (w_X4_unfolds_L37 Q n) ih M9 x1 x3 (M 4 (M 7 x3)) r10 (-9) e1 e3 g7 g11 (rgk (-9) (by decide)) h
        · have h := h.2 c14
          refine a_aload_n 5 rfl dX4_unfolds_98 ?_
          refine a_iload 0 rfl dX4_unfolds_99 ?_
          obtain ⟨b15, h⟩ := h
          refine ldM_17 dX4_unfolds_101 b15 (fun g16 => ?_)
          refine a_goto 107 (by decide) dX4_unfolds_102 ?_
          refine AW.pick [3, 4, 5, 6, 1, 0] rfl ?_
          exact s_X4_unfolds_J107 Q (w_X4_unfolds_L37 Q n) ih M9 x1 x3 (M 4 (M 7 x3)) r10 (M9 17 r10) e1 e3 g7 g11 g16 h
      · have h := h.2 c8
        refine a_aload_n 4 rfl dX4_unfolds_65 ?_
        refine a_iload_n 5 rfl dX4_unfolds_66 ?_
        refine a_aload_n 2 rfl dX4_unfolds_67 ?_
        refine a_iload_n 3 rfl dX4_unfolds_68 ?_
        refine a_iload 0 rfl dX4_unfolds_69 ?_
        refine a_bipush (by decide) dX4_unfolds_71 ?_
        obtain ⟨g17, h⟩ := h
        refine a_isub dX4_unfolds_73 ?_
        refine kX4_90 (Nat.le_of_ble_eq_true rfl) (Nat.le_of_ble_eq_true rfl) dX4_unfolds_74 (s_X4_part e1 g17 h) (fun r19 M18 g20 h => ?_)
        obtain ⟨b21, h⟩ := h
        refine stM_17 dX4_unfolds_77 b21 g20 ?_
        refine a_goto 146 (by decide) dX4_unfolds_78 ?_
        obtain ⟨g22, h⟩ := h
        refine a_iinc (lv' := [(3, vi (x3 + (-1))), (5, vi (M 4 (M 7 x3))), (4, vi (M 7 x3)), (0, .ref (ad 0)), (1, vi x1), (2, .ref (ad 17))]) 5 rfl (Nat.le_of_ble_eq_true rfl) rfl dX4_unfolds_146 ?_
        refine a_goto 37 (by decide) dX4_unfolds_149 ?_
        refine AW.pick [3, 4, 5, 0] rfl ?_
        exact ih (up M18 17 x3 r19) x1 (x3 + (-1)) e1 g22 h
set_option maxRecDepth 100000 in
theorem s_X4_unfolds {l : Launch} {D : va_G} {ad : Nat → Nat} {cA : Nat → ClassId} {M : Mem} {x1 : Int} {Q : Int → Mem → Prop} (e1 : rg x1) (h : w_X4_unfolds M x1 Q) : AM (xM l D ad cA) yX4_unfolds mX4_unfolds [.ref (ad 0), vi x1] M (qI Q) := by
  refine AM.ofAW (by decide +kernel) rfl (Nat.le_of_ble_eq_true rfl) ?_
  show AW (xM l D ad cA) mX4_unfolds (qI Q) 0 [(0, .ref (ad 0)), (1, vi x1)] [] M
  refine a_aload_n 0 rfl dX4_unfolds_0 ?_
  refine a_dup rfl dX4_unfolds_1 ?_
  refine gfX4_169 dX4_unfolds_2 (fun g1 => ?_)
  refine a_iconst dX4_unfolds_5 ?_
  obtain ⟨g2, h⟩ := h
  refine a_iadd dX4_unfolds_6 ?_
  refine pfX4_169 dX4_unfolds_7 g2 ?_
  refine a_aload_n 0 rfl dX4_unfolds_10 ?_
  refine a_aload_n 0 rfl dX4_unfolds_11 ?_
  refine gfX4_13 dX4_unfolds_12 ?_
  refine a_aload_n 0 rfl dX4_unfolds_15 ?_
  refine gfX4_20 dX4_unfolds_16 ?_
  refine a_iload_n 1 rfl dX4_unfolds_19 ?_
  obtain ⟨b3, h⟩ := h
  refine ldM_4 dX4_unfolds_20 b3 (fun g4 => ?_)
  obtain ⟨b5, h⟩ := h
  refine ldM_2 dX4_unfolds_21 b5 (fun g6 => ?_)
  refine kX4_121 (Nat.le_of_ble_eq_true rfl) (Nat.le_of_ble_eq_true rfl) dX4_unfolds_22 (s_X4_goesThrough g6 h) (fun M7 h => ?_)
  refine a_aload_n 0 rfl dX4_unfolds_25 ?_
  refine gfX4_61 dX4_unfolds_26 ?_
  refine a_astore_n (lv' := [(2, .ref (ad 17)), (0, .ref (ad 0)), (1, vi x1)]) (Nat.le_of_ble_eq_true rfl) rfl dX4_unfolds_29 ?_
  refine a_aload_n 1 rfl dX4_unfolds_30 ?_
  refine gfX4_114 dX4_unfolds_31 (fun g10 => ?_)
  refine a_iconst dX4_unfolds_34 ?_
  obtain ⟨g11, h⟩ := h
  refine a_isub dX4_unfolds_35 ?_
  refine a_istore_n (lv' := [(3, vi ((M7 0 9) - 1)), (2, .ref (ad 17)), (0, .ref (ad 0)), (1, vi x1)]) (Nat.le_of_ble_eq_true rfl) rfl dX4_unfolds_36 ?_
  obtain ⟨n37, h⟩ := h
  refine AW.pick [2, 3, 1, 0] rfl ?_
  exact s_X4_unfolds_L37 Q n37 M7 x1 ((M7 0 9) - 1) e1 g11 h
set_option maxRecDepth 100000 in
theorem s_X4_mayUnfold_J24 {l : Launch} {D : va_G} {ad : Nat → Nat} {cA : Nat → ClassId} (Q : Int → Mem → Prop) (M : Mem) (y1 : Int) (f1 : rg y1) (h : w_X4_mayUnfold_J24 Q M y1) : AW (xM l D ad cA) mX4_mayUnfold (qI Q) 24 [(0, .ref (ad 0))] [vi y1, .ref (ad 0)] M := by
  obtain ⟨z1, h⟩ := h
  refine pfX4_175 dX4_mayUnfold_24 z1 ?_
  refine a_aload_n 0 rfl dX4_mayUnfold_27 ?_
  refine gfX4_175 dX4_mayUnfold_28 (fun g2 => ?_)
  refine a_if_ne 38 g2 (by decide) dX4_mayUnfold_31 (fun c3 => ?_) (fun c3 => ?_)
  · have h := h.1 c3
    refine a_iconst dX4_mayUnfold_38 ?_
    exact a_zret rfl dX4_mayUnfold_39 (Or.inl rfl) h
  · have h := h.2 c3
    refine a_iconst dX4_mayUnfold_34 ?_
    refine a_goto 39 (by decide) dX4_mayUnfold_35 ?_
    exact a_zret rfl dX4_mayUnfold_39 (Or.inr rfl) h
set_option maxRecDepth 100000 in
theorem s_X4_mayUnfold_J19 {l : Launch} {D : va_G} {ad : Nat → Nat} {cA : Nat → ClassId} (Q : Int → Mem → Prop) (M : Mem) (h : w_X4_mayUnfold_J19 Q M) : AW (xM l D ad cA) mX4_mayUnfold (qI Q) 19 [(0, .ref (ad 0))] [.ref (ad 0)] M := by
  refine a_iconst dX4_mayUnfold_19 ?_
  refine a_goto 24 (by decide) dX4_mayUnfold_20 ?_
  refine AW.pick [0] rfl ?_
  exact s_X4_mayUnfold_J24 Q M 1 (rgk 1 (by decide)) h
set_option maxRecDepth 100000 in
theorem s_X4_mayUnfold {l : Launch} {D : va_G} {ad : Nat → Nat} {cA : Nat → ClassId} {M : Mem} {x1 : Int} {Q : Int → Mem → Prop} (e1 : rg x1) (h : w_X4_mayUnfold M x1 Q) : AM (xM l D ad cA) yX4_mayUnfold mX4_mayUnfold [.ref (ad 0), vi x1] M (qI Q) := by
  refine AM.ofAW (by decide +kernel) rfl (Nat.le_of_ble_eq_true rfl) ?_
  show AW (xM l D ad cA) mX4_mayUnfold (qI Q) 0 [(0, .ref (ad 0)), (1, vi x1)] [] M
  refine a_aload_n 0 rfl dX4_mayUnfold_0 ?_
  refine a_aload_n 0 rfl dX4_mayUnfold_1 ?_
  refine gfX4_175 dX4_mayUnfold_2 (fun g1 => ?_)
  refine a_if_ne 19 g1 (by decide) dX4_mayUnfold_5 (fun c2 => ?_) (fun c2 => ?_)
  · have h := h.1 c2
    refine AW.pick [0] rfl ?_
    exact s_X4_mayUnfold_J19 Q M h
  · have h := h.2 c2
    refine a_aload_n 0 rfl dX4_mayUnfold_8 ?_
    refine gfX4_169 dX4_mayUnfold_9 (fun g3 => ?_)
    refine a_iload_n 1 rfl dX4_mayUnfold_12 ?_
    obtain ⟨g4, h⟩ := h
    refine a_iadd dX4_mayUnfold_13 ?_
    refine a_bipush (by decide) dX4_mayUnfold_14 ?_
    refine a_icmp_le 23 g4 (rgk 40 (by decide)) (by decide) dX4_mayUnfold_16 (fun c5 => ?_) (fun c5 => ?_)
    · have h := h.1 c5
      refine a_iconst dX4_mayUnfold_23 ?_
      refine AW.pick [0] rfl ?_
      exact s_X4_mayUnfold_J24 Q M 0 (rgk 0 (by decide)) h
    · have h := h.2 c5
      refine AW.pick [0] rfl ?_
      exact s_X4_mayUnfold_J19 Q M h
set_option maxRecDepth 100000 in
theorem s_X4_goesTo {l : Launch} {D : va_G} {ad : Nat → Nat} {cA : Nat → ClassId} {M : Mem} {x1 : Int} {x2 : Int} {Q : Mem → Prop} (e1 : rg x1) (e2 : rg x2) (h : w_X4_goesTo M x1 x2 Q) : AM (xM l D ad cA) yX4_goesTo mX4_goesTo [.ref (ad 0), vi x1, vi x2] M (qV Q) := by
  refine AM.ofAW (by decide +kernel) rfl (Nat.le_of_ble_eq_true rfl) ?_
  show AW (xM l D ad cA) mX4_goesTo (qV Q) 0 [(0, .ref (ad 0)), (1, vi x1), (2, vi x2)] [] M
  refine a_aload_n 0 rfl dX4_goesTo_0 ?_
  refine gfX4_64 dX4_goesTo_1 ?_
  refine a_aload_n 0 rfl dX4_goesTo_4 ?_
  refine gfX4_179 dX4_goesTo_5 (fun g1 => ?_)
  refine a_iload_n 1 rfl dX4_goesTo_8 ?_
  obtain ⟨b2, h⟩ := h
  refine stM_18 dX4_goesTo_9 b2 e1 ?_
  refine a_aload_n 0 rfl dX4_goesTo_10 ?_
  refine gfX4_67 dX4_goesTo_11 ?_
  refine a_aload_n 0 rfl dX4_goesTo_14 ?_
  refine gfX4_179 dX4_goesTo_15 (fun g3 => ?_)
  refine a_iload_n 2 rfl dX4_goesTo_18 ?_
  obtain ⟨b4, h⟩ := h
  refine stM_19 dX4_goesTo_19 b4 e2 ?_
  refine a_aload_n 0 rfl dX4_goesTo_20 ?_
  refine gfX4_70 dX4_goesTo_21 ?_
  refine a_aload_n 0 rfl dX4_goesTo_24 ?_
  refine gfX4_179 dX4_goesTo_25 (fun g5 => ?_)
  refine a_iconst dX4_goesTo_28 ?_
  obtain ⟨b6, h⟩ := h
  refine stM_20 dX4_goesTo_29 b6 (rgk 0 (by decide)) ?_
  refine a_aload_n 0 rfl dX4_goesTo_30 ?_
  refine a_dup rfl dX4_goesTo_31 ?_
  refine gfX4_179 dX4_goesTo_32 (fun g7 => ?_)
  refine a_iconst dX4_goesTo_35 ?_
  obtain ⟨g8, h⟩ := h
  refine a_iadd dX4_goesTo_36 ?_
  refine pfX4_179 dX4_goesTo_37 g8 ?_
  exact a_vret rfl dX4_goesTo_40 h
set_option maxRecDepth 100000 in
theorem s_X4_ends_J52 {l : Launch} {D : va_G} {ad : Nat → Nat} {cA : Nat → ClassId} (Q : Mem → Prop) (M : Mem) (x1 : Int) (y1 : Int) (y2 : Int) (y3 : Int) (e1 : rg x1) (f1 : rg y1) (f2 : rg y2) (f3 : rg y3) (h : w_X4_ends_J52 Q M x1 y1 y2 y3) : AW (xM l D ad cA) mX4_ends (qV Q) 52 [(0, .ref (ad 0)), (1, vi x1)] [vi y3, vi y2, vi y1, .ref (ad 16)] M := by
  obtain ⟨g1, h⟩ := h
  refine a_iadd dX4_ends_52 ?_
  obtain ⟨b2, h⟩ := h
  refine stM_16 dX4_ends_53 b2 g1 ?_
  refine a_aload_n 0 rfl dX4_ends_54 ?_
  refine a_iload_n 1 rfl dX4_ends_55 ?_
  obtain ⟨z3, h⟩ := h
  refine pfX4_185 dX4_ends_56 z3 ?_
  exact a_vret rfl dX4_ends_59 h
set_option maxRecDepth 100000 in
theorem s_X4_ends {l : Launch} {D : va_G} {ad : Nat → Nat} {cA : Nat → ClassId} {M : Mem} {x1 : Int} {Q : Mem → Prop} (e1 : rg x1) (h : w_X4_ends M x1 Q) : AM (xM l D ad cA) yX4_ends mX4_ends [.ref (ad 0), vi x1] M (qV Q) := by
  refine AM.ofAW (by decide +kernel) rfl (Nat.le_of_ble_eq_true rfl) ?_
  show AW (xM l D ad cA) mX4_ends (qV Q) 0 [(0, .ref (ad 0)), (1, vi x1)] [] M
  refine a_aload_n 0 rfl dX4_ends_0 ?_
  refine a_dup rfl dX4_ends_1 ?_
  refine gfX4_179 dX4_ends_2 (fun g1 => ?_)
  refine a_iconst dX4_ends_5 ?_
  obtain ⟨g2, h⟩ := h
  refine a_isub dX4_ends_6 ?_
  refine pfX4_179 dX4_ends_7 g2 ?_
  refine a_aload_n 0 rfl dX4_ends_10 ?_
  refine gfX4_58 dX4_ends_11 ?_
  refine a_sipush (by decide) dX4_ends_14 ?_
  refine a_aload_n 0 rfl dX4_ends_17 ?_
  refine gfX4_64 dX4_ends_18 ?_
  refine a_aload_n 0 rfl dX4_ends_21 ?_
  refine gfX4_179 dX4_ends_22 (fun g3 => ?_)
  obtain ⟨b4, h⟩ := h
  refine ldM_18 dX4_ends_25 b4 (fun g5 => ?_)
  obtain ⟨g6, h⟩ := h
  refine a_imul dX4_ends_26 ?_
  refine a_aload_n 0 rfl dX4_ends_27 ?_
  refine gfX4_67 dX4_ends_28 ?_
  refine a_aload_n 0 rfl dX4_ends_31 ?_
  refine gfX4_179 dX4_ends_32 (fun g7 => ?_)
  obtain ⟨b8, h⟩ := h
  refine ldM_19 dX4_ends_35 b8 (fun g9 => ?_)
  obtain ⟨g10, h⟩ := h
  refine a_iadd dX4_ends_36 ?_
  refine a_iconst dX4_ends_37 ?_
  refine a_aload_n 0 rfl dX4_ends_38 ?_
  refine gfX4_182 dX4_ends_39 (fun g11 => ?_)
  obtain ⟨g12, h⟩ := h
  refine a_imul dX4_ends_42 ?_
  refine a_iload_n 1 rfl dX4_ends_43 ?_
  refine a_if_eq 51 e1 (by decide) dX4_ends_44 (fun c13 => ?_) (fun c13 => ?_)
  · have h := h.1 c13
    refine a_iconst dX4_ends_51 ?_
    refine AW.pick [0, 1] rfl ?_
    exact s_X4_ends_J52 Q (up M 0 27 ((M 0 27) - 1)) x1 ((740 * ((up M 0 27 ((M 0 27) - 1)) 18 ((up M 0 27 ((M 0 27) - 1)) 0 27))) + ((up M 0 27 ((M 0 27) - 1)) 19 ((up M 0 27 ((M 0 27) - 1)) 0 27))) (2 * ((up M 0 27 ((M 0 27) - 1)) 0 24)) 0 e1 g10 g12 (rgk 0 (by decide)) h
  · have h := h.2 c13
    refine a_iconst dX4_ends_47 ?_
    refine a_goto 52 (by decide) dX4_ends_48 ?_
    refine AW.pick [0, 1] rfl ?_
    exact s_X4_ends_J52 Q (up M 0 27 ((M 0 27) - 1)) x1 ((740 * ((up M 0 27 ((M 0 27) - 1)) 18 ((up M 0 27 ((M 0 27) - 1)) 0 27))) + ((up M 0 27 ((M 0 27) - 1)) 19 ((up M 0 27 ((M 0 27) - 1)) 0 27))) (2 * ((up M 0 27 ((M 0 27) - 1)) 0 24)) 1 e1 g10 g12 (rgk 1 (by decide)) h
set_option maxRecDepth 100000 in
theorem s_X4_leaves {l : Launch} {D : va_G} {ad : Nat → Nat} {cA : Nat → ClassId} {M : Mem} {x1 : Int} {Q : Mem → Prop} (e1 : rg x1) (h : w_X4_leaves M x1 Q) : AM (xM l D ad cA) yX4_leaves mX4_leaves [.ref (ad 0), vi x1] M (qV Q) := by
  refine AM.ofAW (by decide +kernel) rfl (Nat.le_of_ble_eq_true rfl) ?_
  show AW (xM l D ad cA) mX4_leaves (qV Q) 0 [(0, .ref (ad 0)), (1, vi x1)] [] M
  refine a_aload_n 0 rfl dX4_leaves_0 ?_
  refine a_dup rfl dX4_leaves_1 ?_
  refine gfX4_179 dX4_leaves_2 (fun g1 => ?_)
  refine a_iconst dX4_leaves_5 ?_
  obtain ⟨g2, h⟩ := h
  refine a_isub dX4_leaves_6 ?_
  refine pfX4_179 dX4_leaves_7 g2 ?_
  refine a_aload_n 0 rfl dX4_leaves_10 ?_
  refine a_iload_n 1 rfl dX4_leaves_11 ?_
  obtain ⟨z3, h⟩ := h
  refine pfX4_185 dX4_leaves_12 z3 ?_
  exact a_vret rfl dX4_leaves_15 h
set_option maxRecDepth 100000 in
theorem s_X4_unfoldsSome_J77 {l : Launch} {D : va_G} {ad : Nat → Nat} {cA : Nat → ClassId} (Q : Mem → Prop) (M : Mem) (x2 : Int) (x4 : Int) (y0 : Int) (e2 : rg x2) (e4 : rg x4) (f0 : rg y0) (h : w_X4_unfoldsSome_J77 Q M x2 x4 y0) : AW (xM l D ad cA) mX4_unfoldsSome (qV Q) 77 [(0, .ref (ad 0)), (2, vi x2), (4, vi x4)] [vi y0] M := by
  refine a_istore (lv' := [(5, vi y0), (0, .ref (ad 0)), (2, vi x2), (4, vi x4)]) (Nat.le_of_ble_eq_true rfl) rfl dX4_unfoldsSome_77 ?_
  refine a_aload_n 1 rfl dX4_unfoldsSome_79 ?_
  refine a_iload 0 rfl dX4_unfoldsSome_80 ?_
  refine a_iload_n 2 rfl dX4_unfoldsSome_82 ?_
  refine a_if_eq 95 e2 (by decide) dX4_unfoldsSome_83 (fun c1 => ?_) (fun c1 => ?_)
  · have h := h.1 c1
    refine a_iload 3 rfl dX4_unfoldsSome_95 ?_
    refine kX4_198 (Nat.le_of_ble_eq_true rfl) (Nat.le_of_ble_eq_true rfl) dX4_unfoldsSome_97 (s_X4_goesTo f0 e4 h) (fun M2 h => ?_)
    exact a_vret rfl dX4_unfoldsSome_100 h
  · have h := h.2 c1
    refine a_aload_n 1 rfl dX4_unfoldsSome_86 ?_
    refine a_iload 3 rfl dX4_unfoldsSome_87 ?_
    refine kX4_195 (Nat.le_of_ble_eq_true rfl) (Nat.le_of_ble_eq_true rfl) dX4_unfoldsSome_89 (s_X4_unfolds e4 h) (fun r6 M5 g7 h => ?_)
    refine a_goto 97 (by decide) dX4_unfoldsSome_92 ?_
    refine kX4_198 (Nat.le_of_ble_eq_true rfl) (Nat.le_of_ble_eq_true rfl) dX4_unfoldsSome_97 (s_X4_goesTo f0 g7 h) (fun M8 h => ?_)
    exact a_vret rfl dX4_unfoldsSome_100 h
set_option maxRecDepth 100000 in
theorem s_X4_unfoldsSome_J14 {l : Launch} {D : va_G} {ad : Nat → Nat} {cA : Nat → ClassId} (Q : Mem → Prop) (M : Mem) (x1 : Int) (x2 : Int) (y1 : Int) (e1 : rg x1) (e2 : rg x2) (f1 : rg y1) (h : w_X4_unfoldsSome_J14 Q M x1 x2 y1) : AW (xM l D ad cA) mX4_unfoldsSome (qV Q) 14 [(0, .ref (ad 0)), (1, vi x1), (2, vi x2)] [vi y1, .ref (ad 0)] M := by
  refine kX4_188 (Nat.le_of_ble_eq_true rfl) (Nat.le_of_ble_eq_true rfl) dX4_unfoldsSome_14 (s_X4_mayUnfold f1 h) (fun r2 M1 g3 h => ?_)
  refine a_if_ne 26 g3 (by decide) dX4_unfoldsSome_17 (fun c4 => ?_) (fun c4 => ?_)
  · have h := h.1 c4
    refine a_aload_n 0 rfl dX4_unfoldsSome_26 ?_
    refine gfX4_70 dX4_unfoldsSome_27 ?_
    refine a_aload_n 0 rfl dX4_unfoldsSome_30 ?_
    refine gfX4_179 dX4_unfoldsSome_31 (fun g5 => ?_)
    refine a_iconst dX4_unfoldsSome_34 ?_
    obtain ⟨g6, h⟩ := h
    refine a_isub dX4_unfoldsSome_35 ?_
    refine a_bipush (by decide) dX4_unfoldsSome_36 ?_
    obtain ⟨b7, h⟩ := h
    refine stM_20 dX4_unfoldsSome_38 b7 (rgk 9 (by decide)) ?_
    refine a_aload_n 0 rfl dX4_unfoldsSome_39 ?_
    refine gfX4_64 dX4_unfoldsSome_40 ?_
    refine a_aload_n 0 rfl dX4_unfoldsSome_43 ?_
    refine gfX4_179 dX4_unfoldsSome_44 (fun g8 => ?_)
    refine a_iconst dX4_unfoldsSome_47 ?_
    obtain ⟨g9, h⟩ := h
    refine a_isub dX4_unfoldsSome_48 ?_
    obtain ⟨b10, h⟩ := h
    refine ldM_18 dX4_unfoldsSome_49 b10 (fun g11 => ?_)
    refine a_istore_n (lv' := [(3, vi ((up M1 20 ((M1 0 27) - 1) 9) 18 (((up M1 20 ((M1 0 27) - 1) 9) 0 27) - 1))), (0, .ref (ad 0)), (1, vi x1), (2, vi x2)]) (Nat.le_of_ble_eq_true rfl) rfl dX4_unfoldsSome_50 ?_
    refine a_aload_n 1 rfl dX4_unfoldsSome_51 ?_
    refine gfX4_67 dX4_unfoldsSome_52 ?_
    refine a_aload_n 1 rfl dX4_unfoldsSome_55 ?_
    refine gfX4_179 dX4_unfoldsSome_56 (fun g12 => ?_)
    refine a_iconst dX4_unfoldsSome_59 ?_
    obtain ⟨g13, h⟩ := h
    refine a_isub dX4_unfoldsSome_60 ?_
    obtain ⟨b14, h⟩ := h
    refine ldM_19 dX4_unfoldsSome_61 b14 (fun g15 => ?_)
    refine a_istore (lv' := [(4, vi ((up M1 20 ((M1 0 27) - 1) 9) 19 (((up M1 20 ((M1 0 27) - 1) 9) 0 27) - 1))), (3, vi ((up M1 20 ((M1 0 27) - 1) 9) 18 (((up M1 20 ((M1 0 27) - 1) 9) 0 27) - 1))), (0, .ref (ad 0)), (1, vi x1), (2, vi x2)]) (Nat.le_of_ble_eq_true rfl) rfl dX4_unfoldsSome_62 ?_
    refine a_iload_n 3 rfl dX4_unfoldsSome_64 ?_
    refine a_if_eq 76 e1 (by decide) dX4_unfoldsSome_65 (fun c16 => ?_) (fun c16 => ?_)
    · have h := h.1 c16
      refine a_iload_n 1 rfl dX4_unfoldsSome_76 ?_
      refine AW.pick [2, 4, 0] rfl ?_
      exact s_X4_unfoldsSome_J77 Q (up M1 20 ((M1 0 27) - 1) 9) x2 ((up M1 20 ((M1 0 27) - 1) 9) 19 (((up M1 20 ((M1 0 27) - 1) 9) 0 27) - 1)) ((up M1 20 ((M1 0 27) - 1) 9) 18 (((up M1 20 ((M1 0 27) - 1) 9) 0 27) - 1)) e2 g15 g11 h
    · have h := h.2 c16
      refine a_aload_n 2 rfl dX4_unfoldsSome_68 ?_
      refine a_iload_n 1 rfl dX4_unfoldsSome_69 ?_
      refine kX4_195 (Nat.le_of_ble_eq_true rfl) (Nat.le_of_ble_eq_true rfl) dX4_unfoldsSome_70 (s_X4_unfolds g11 h) (fun r18 M17 g19 h => ?_)
      refine a_goto 77 (by decide) dX4_unfoldsSome_73 ?_
      refine AW.pick [2, 4, 0] rfl ?_
      exact s_X4_unfoldsSome_J77 Q M17 x2 ((up M1 20 ((M1 0 27) - 1) 9) 19 (((up M1 20 ((M1 0 27) - 1) 9) 0 27) - 1)) r18 e2 g15 g19 h
  · have h := h.2 c4
    refine a_aload_n 0 rfl dX4_unfoldsSome_20 ?_
    refine a_iconst dX4_unfoldsSome_21 ?_
    refine kX4_191 (Nat.le_of_ble_eq_true rfl) (Nat.le_of_ble_eq_true rfl) dX4_unfoldsSome_22 (s_X4_leaves (rgk 0 (by decide)) h) (fun M20 h => ?_)
    exact a_vret rfl dX4_unfoldsSome_25 h
set_option maxRecDepth 100000 in
theorem s_X4_unfoldsSome_J13 {l : Launch} {D : va_G} {ad : Nat → Nat} {cA : Nat → ClassId} (Q : Mem → Prop) (M : Mem) (x1 : Int) (x2 : Int) (e1 : rg x1) (e2 : rg x2) (h : w_X4_unfoldsSome_J13 Q M x1 x2) : AW (xM l D ad cA) mX4_unfoldsSome (qV Q) 13 [(0, .ref (ad 0)), (1, vi x1), (2, vi x2)] [.ref (ad 0)] M := by
  refine a_iconst dX4_unfoldsSome_13 ?_
  refine AW.pick [0, 1, 2] rfl ?_
  exact s_X4_unfoldsSome_J14 Q M x1 x2 1 e1 e2 (rgk 1 (by decide)) h
set_option maxRecDepth 100000 in
theorem s_X4_unfoldsSome {l : Launch} {D : va_G} {ad : Nat → Nat} {cA : Nat → ClassId} {M : Mem} {x1 : Int} {x2 : Int} {Q : Mem → Prop} (e1 : rg x1) (e2 : rg x2) (h : w_X4_unfoldsSome M x1 x2 Q) : AM (xM l D ad cA) yX4_unfoldsSome mX4_unfoldsSome [.ref (ad 0), vi x1, vi x2] M (qV Q) := by
  refine AM.ofAW (by decide +kernel) rfl (Nat.le_of_ble_eq_true rfl) ?_
  show AW (xM l D ad cA) mX4_unfoldsSome (qV Q) 0 [(0, .ref (ad 0)), (1, vi x1), (2, vi x2)] [] M
  refine a_aload_n 0 rfl dX4_unfoldsSome_0 ?_
  refine a_iload_n 1 rfl dX4_unfoldsSome_1 ?_
  refine a_if_eq 13 e1 (by decide) dX4_unfoldsSome_2 (fun c1 => ?_) (fun c1 => ?_)
  · have h := h.1 c1
    refine AW.pick [0, 1, 2] rfl ?_
    exact s_X4_unfoldsSome_J13 Q M x1 x2 e1 e2 h
  · have h := h.2 c1
    refine a_iload_n 2 rfl dX4_unfoldsSome_5 ?_
    refine a_if_eq 13 e2 (by decide) dX4_unfoldsSome_6 (fun c2 => ?_) (fun c2 => ?_)
    · have h := h.1 c2
      refine AW.pick [0, 1, 2] rfl ?_
      exact s_X4_unfoldsSome_J13 Q M x1 x2 e1 e2 h
    · have h := h.2 c2
      refine a_iconst dX4_unfoldsSome_9 ?_
      refine a_goto 14 (by decide) dX4_unfoldsSome_10 ?_
      refine AW.pick [0, 1, 2] rfl ?_
      exact s_X4_unfoldsSome_J14 Q M x1 x2 2 e1 e2 (rgk 2 (by decide)) h
set_option maxRecDepth 100000 in
theorem s_X4_judgesNames_J70 {l : Launch} {D : va_G} {ad : Nat → Nat} {cA : Nat → ClassId} (Q : Mem → Prop) (M : Mem) (x1 : Int) (x2 : Int) (y1 : Int) (e1 : rg x1) (e2 : rg x2) (f1 : rg y1) (h : w_X4_judgesNames_J70 Q M x1 x2 y1) : AW (xM l D ad cA) mX4_judgesNames (qV Q) 70 [(0, .ref (ad 0)), (1, vi x1), (2, vi x2)] [vi y1, .ref (ad 0)] M := by
  refine a_aload_n 0 rfl dX4_judgesNames_70 ?_
  refine gfX4_32 dX4_judgesNames_71 ?_
  refine a_iload_n 2 rfl dX4_judgesNames_74 ?_
  obtain ⟨b1, h⟩ := h
  refine ldM_8 dX4_judgesNames_75 b1 (fun g2 => ?_)
  refine a_aload_n 0 rfl dX4_judgesNames_76 ?_
  refine gfX4_32 dX4_judgesNames_77 ?_
  refine a_iload_n 1 rfl dX4_judgesNames_80 ?_
  obtain ⟨b3, h⟩ := h
  refine ldM_8 dX4_judgesNames_81 b3 (fun g4 => ?_)
  refine a_icmp_lt 89 g2 g4 (by decide) dX4_judgesNames_82 (fun c5 => ?_) (fun c5 => ?_)
  · have h := h.1 c5
    refine a_iconst dX4_judgesNames_89 ?_
    refine kX4_211 (Nat.le_of_ble_eq_true rfl) (Nat.le_of_ble_eq_true rfl) dX4_judgesNames_90 (s_X4_unfoldsSome f1 (rgk 0 (by decide)) h) (fun M6 h => ?_)
    refine a_goto 103 (by decide) dX4_judgesNames_93 ?_
    exact a_vret rfl dX4_judgesNames_103 h
  · have h := h.2 c5
    refine a_iconst dX4_judgesNames_85 ?_
    refine a_goto 90 (by decide) dX4_judgesNames_86 ?_
    refine kX4_211 (Nat.le_of_ble_eq_true rfl) (Nat.le_of_ble_eq_true rfl) dX4_judgesNames_90 (s_X4_unfoldsSome f1 (rgk 1 (by decide)) h) (fun M9 h => ?_)
    refine a_goto 103 (by decide) dX4_judgesNames_93 ?_
    exact a_vret rfl dX4_judgesNames_103 h
set_option maxRecDepth 100000 in
theorem s_X4_judgesNames_J96 {l : Launch} {D : va_G} {ad : Nat → Nat} {cA : Nat → ClassId} (Q : Mem → Prop) (M : Mem) (x3 : Int) (x4 : Int) (e3 : rg x3) (e4 : rg x4) (h : w_X4_judgesNames_J96 Q M x3 x4) : AW (xM l D ad cA) mX4_judgesNames (qV Q) 96 [(0, .ref (ad 0)), (3, vi x3), (4, vi x4)] [] M := by
  refine a_aload_n 0 rfl dX4_judgesNames_96 ?_
  refine a_iload_n 1 rfl dX4_judgesNames_97 ?_
  refine a_iload 2 rfl dX4_judgesNames_98 ?_
  refine kX4_211 (Nat.le_of_ble_eq_true rfl) (Nat.le_of_ble_eq_true rfl) dX4_judgesNames_100 (s_X4_unfoldsSome e3 e4 h) (fun M1 h => ?_)
  exact a_vret rfl dX4_judgesNames_103 h
set_option maxRecDepth 100000 in
theorem s_X4_judgesNames_J40 {l : Launch} {D : va_G} {ad : Nat → Nat} {cA : Nat → ClassId} (Q : Mem → Prop) (M : Mem) (x1 : Int) (x2 : Int) (x3 : Int) (x4 : Int) (e1 : rg x1) (e2 : rg x2) (e3 : rg x3) (e4 : rg x4) (h : w_X4_judgesNames_J40 Q M x1 x2 x3 x4) : AW (xM l D ad cA) mX4_judgesNames (qV Q) 40 [(0, .ref (ad 0)), (1, vi x1), (2, vi x2), (3, vi x3), (4, vi x4)] [] M := by
  refine a_iload_n 3 rfl dX4_judgesNames_40 ?_
  refine a_if_eq 96 e3 (by decide) dX4_judgesNames_41 (fun c1 => ?_) (fun c1 => ?_)
  · have h := h.1 c1
    refine AW.pick [0, 3, 4] rfl ?_
    exact s_X4_judgesNames_J96 Q M x3 x4 e3 e4 h
  · have h := h.2 c1
    refine a_iload 4 rfl dX4_judgesNames_44 ?_
    refine a_if_eq 96 e4 (by decide) dX4_judgesNames_46 (fun c2 => ?_) (fun c2 => ?_)
    · have h := h.1 c2
      refine AW.pick [0, 3, 4] rfl ?_
      exact s_X4_judgesNames_J96 Q M x3 x4 e3 e4 h
    · have h := h.2 c2
      refine a_aload_n 0 rfl dX4_judgesNames_49 ?_
      refine a_aload_n 0 rfl dX4_judgesNames_50 ?_
      refine gfX4_32 dX4_judgesNames_51 ?_
      refine a_iload_n 1 rfl dX4_judgesNames_54 ?_
      obtain ⟨b3, h⟩ := h
      refine ldM_8 dX4_judgesNames_55 b3 (fun g4 => ?_)
      refine a_aload_n 0 rfl dX4_judgesNames_56 ?_
      refine gfX4_32 dX4_judgesNames_57 ?_
      refine a_iload_n 2 rfl dX4_judgesNames_60 ?_
      obtain ⟨b5, h⟩ := h
      refine ldM_8 dX4_judgesNames_61 b5 (fun g6 => ?_)
      refine a_icmp_lt 69 g4 g6 (by decide) dX4_judgesNames_62 (fun c7 => ?_) (fun c7 => ?_)
      · have h := h.1 c7
        refine a_iconst dX4_judgesNames_69 ?_
        refine AW.pick [0, 1, 2] rfl ?_
        exact s_X4_judgesNames_J70 Q M x1 x2 0 e1 e2 (rgk 0 (by decide)) h
      · have h := h.2 c7
        refine a_iconst dX4_judgesNames_65 ?_
        refine a_goto 70 (by decide) dX4_judgesNames_66 ?_
        refine AW.pick [0, 1, 2] rfl ?_
        exact s_X4_judgesNames_J70 Q M x1 x2 1 e1 e2 (rgk 1 (by decide)) h
set_option maxRecDepth 100000 in
theorem s_X4_judgesNames {l : Launch} {D : va_G} {ad : Nat → Nat} {cA : Nat → ClassId} {M : Mem} {x1 : Int} {x2 : Int} {Q : Mem → Prop} (e1 : rg x1) (e2 : rg x2) (h : w_X4_judgesNames M x1 x2 Q) : AM (xM l D ad cA) yX4_judgesNames mX4_judgesNames [.ref (ad 0), vi x1, vi x2] M (qV Q) := by
  refine AM.ofAW (by decide +kernel) rfl (Nat.le_of_ble_eq_true rfl) ?_
  show AW (xM l D ad cA) mX4_judgesNames (qV Q) 0 [(0, .ref (ad 0)), (1, vi x1), (2, vi x2)] [] M
  refine a_aload_n 0 rfl dX4_judgesNames_0 ?_
  refine a_iload_n 1 rfl dX4_judgesNames_1 ?_
  refine kX4_139 (Nat.le_of_ble_eq_true rfl) (Nat.le_of_ble_eq_true rfl) dX4_judgesNames_2 (s_X4_isFolded e1 h) (fun r2 M1 g3 h => ?_)
  refine a_istore_n (lv' := [(3, vi r2), (0, .ref (ad 0)), (1, vi x1), (2, vi x2)]) (Nat.le_of_ble_eq_true rfl) rfl dX4_judgesNames_5 ?_
  refine a_aload_n 1 rfl dX4_judgesNames_6 ?_
  refine a_iload_n 3 rfl dX4_judgesNames_7 ?_
  refine kX4_139 (Nat.le_of_ble_eq_true rfl) (Nat.le_of_ble_eq_true rfl) dX4_judgesNames_8 (s_X4_isFolded e2 h) (fun r5 M4 g6 h => ?_)
  refine a_istore (lv' := [(4, vi r5), (3, vi r2), (0, .ref (ad 0)), (1, vi x1), (2, vi x2)]) (Nat.le_of_ble_eq_true rfl) rfl dX4_judgesNames_11 ?_
  refine a_iload_n 1 rfl dX4_judgesNames_13 ?_
  refine a_if_ne 40 g3 (by decide) dX4_judgesNames_14 (fun c7 => ?_) (fun c7 => ?_)
  · have h := h.1 c7
    refine AW.pick [2, 3, 4, 1, 0] rfl ?_
    exact s_X4_judgesNames_J40 Q M4 x1 x2 r2 r5 e1 e2 g3 g6 h
  · have h := h.2 c7
    refine a_iload 0 rfl dX4_judgesNames_17 ?_
    refine a_if_ne 40 g6 (by decide) dX4_judgesNames_19 (fun c8 => ?_) (fun c8 => ?_)
    · have h := h.1 c8
      refine AW.pick [2, 3, 4, 1, 0] rfl ?_
      exact s_X4_judgesNames_J40 Q M4 x1 x2 r2 r5 e1 e2 g3 g6 h
    · have h := h.2 c8
      refine a_aload_n 2 rfl dX4_judgesNames_22 ?_
      refine a_iload_n 3 rfl dX4_judgesNames_23 ?_
      refine pfX4_202 dX4_judgesNames_24 e1 ?_
      refine a_aload_n 2 rfl dX4_judgesNames_27 ?_
      refine a_iload_n 4 rfl dX4_judgesNames_28 ?_
      refine pfX4_205 dX4_judgesNames_29 e2 ?_
      refine a_aload_n 2 rfl dX4_judgesNames_32 ?_
      refine a_iconst dX4_judgesNames_33 ?_
      refine kX4_208 (Nat.le_of_ble_eq_true rfl) (Nat.le_of_ble_eq_true rfl) dX4_judgesNames_34 (s_X4_ends (rgk 0 (by decide)) h) (fun M9 h => ?_)
      refine a_goto 103 (by decide) dX4_judgesNames_37 ?_
      exact a_vret rfl dX4_judgesNames_103 h
set_option maxRecDepth 100000 in
theorem s_X4_goesToPart {l : Launch} {D : va_G} {ad : Nat → Nat} {cA : Nat → ClassId} {M : Mem} {x1 : Int} {Q : Mem → Prop} (e1 : rg x1) (h : w_X4_goesToPart M x1 Q) : AM (xM l D ad cA) yX4_goesToPart mX4_goesToPart [.ref (ad 0), vi x1] M (qV Q) := by
  refine AM.ofAW (by decide +kernel) rfl (Nat.le_of_ble_eq_true rfl) ?_
  show AW (xM l D ad cA) mX4_goesToPart (qV Q) 0 [(0, .ref (ad 0)), (1, vi x1)] [] M
  refine a_aload_n 0 rfl dX4_goesToPart_0 ?_
  refine gfX4_179 dX4_goesToPart_1 (fun g1 => ?_)
  refine a_iconst dX4_goesToPart_4 ?_
  obtain ⟨g2, h⟩ := h
  refine a_isub dX4_goesToPart_5 ?_
  refine a_istore_n (lv' := [(2, vi ((M 0 27) - 1)), (0, .ref (ad 0)), (1, vi x1)]) (Nat.le_of_ble_eq_true rfl) rfl dX4_goesToPart_6 ?_
  refine a_aload_n 1 rfl dX4_goesToPart_7 ?_
  refine gfX4_70 dX4_goesToPart_8 ?_
  refine a_iload_n 0 rfl dX4_goesToPart_11 ?_
  refine a_iconst dX4_goesToPart_12 ?_
  refine a_iload_n 2 rfl dX4_goesToPart_13 ?_
  obtain ⟨g3, h⟩ := h
  refine a_iadd dX4_goesToPart_14 ?_
  obtain ⟨b4, h⟩ := h
  refine stM_20 dX4_goesToPart_15 b4 g3 ?_
  refine a_aload_n 1 rfl dX4_goesToPart_16 ?_
  refine a_aload_n 1 rfl dX4_goesToPart_17 ?_
  refine a_aload_n 1 rfl dX4_goesToPart_18 ?_
  refine gfX4_64 dX4_goesToPart_19 ?_
  refine a_iload_n 0 rfl dX4_goesToPart_22 ?_
  obtain ⟨b5, h⟩ := h
  refine ldM_18 dX4_goesToPart_23 b5 (fun g6 => ?_)
  refine a_iload_n 2 rfl dX4_goesToPart_24 ?_
  refine kX4_90 (Nat.le_of_ble_eq_true rfl) (Nat.le_of_ble_eq_true rfl) dX4_goesToPart_25 (s_X4_part g6 e1 h) (fun r8 M7 g9 h => ?_)
  refine a_aload_n 1 rfl dX4_goesToPart_28 ?_
  refine a_aload_n 1 rfl dX4_goesToPart_29 ?_
  refine gfX4_67 dX4_goesToPart_30 ?_
  refine a_iload_n 0 rfl dX4_goesToPart_33 ?_
  obtain ⟨b10, h⟩ := h
  refine ldM_19 dX4_goesToPart_34 b10 (fun g11 => ?_)
  refine a_iload_n 2 rfl dX4_goesToPart_35 ?_
  refine kX4_90 (Nat.le_of_ble_eq_true rfl) (Nat.le_of_ble_eq_true rfl) dX4_goesToPart_36 (s_X4_part g11 e1 h) (fun r13 M12 g14 h => ?_)
  refine kX4_198 (Nat.le_of_ble_eq_true rfl) (Nat.le_of_ble_eq_true rfl) dX4_goesToPart_39 (s_X4_goesTo g9 g14 h) (fun M15 h => ?_)
  exact a_vret rfl dX4_goesToPart_42 h
set_option maxRecDepth 100000 in
theorem s_X4_begins_J49 {l : Launch} {D : va_G} {ad : Nat → Nat} {cA : Nat → ClassId} (Q : Mem → Prop) (M : Mem) (h : w_X4_begins_J49 Q M) : AW (xM l D ad cA) mX4_begins (qV Q) 49 [(0, .ref (ad 0))] [] M := by
  refine a_aload_n 0 rfl dX4_begins_49 ?_
  refine a_aload_n 0 rfl dX4_begins_50 ?_
  refine gfX4_175 dX4_begins_51 (fun g1 => ?_)
  refine a_if_ne 61 g1 (by decide) dX4_begins_54 (fun c2 => ?_) (fun c2 => ?_)
  · have h := h.1 c2
    refine a_iconst dX4_begins_61 ?_
    refine kX4_191 (Nat.le_of_ble_eq_true rfl) (Nat.le_of_ble_eq_true rfl) dX4_begins_62 (s_X4_leaves (rgk 0 (by decide)) h) (fun M3 h => ?_)
    refine a_goto 146 (by decide) dX4_begins_65 ?_
    exact a_vret rfl dX4_begins_146 h
  · have h := h.2 c2
    refine a_iconst dX4_begins_57 ?_
    refine a_goto 62 (by decide) dX4_begins_58 ?_
    refine kX4_191 (Nat.le_of_ble_eq_true rfl) (Nat.le_of_ble_eq_true rfl) dX4_begins_62 (s_X4_leaves (rgk 1 (by decide)) h) (fun M6 h => ?_)
    refine a_goto 146 (by decide) dX4_begins_65 ?_
    exact a_vret rfl dX4_begins_146 h
set_option maxRecDepth 100000 in
theorem s_X4_begins {l : Launch} {D : va_G} {ad : Nat → Nat} {cA : Nat → ClassId} {M : Mem} {Q : Mem → Prop} (h : w_X4_begins M Q) : AM (xM l D ad cA) yX4_begins mX4_begins [.ref (ad 0)] M (qV Q) := by
  refine AM.ofAW (by decide +kernel) rfl (Nat.le_of_ble_eq_true rfl) ?_
  show AW (xM l D ad cA) mX4_begins (qV Q) 0 [(0, .ref (ad 0))] [] M
  refine a_aload_n 0 rfl dX4_begins_0 ?_
  refine gfX4_64 dX4_begins_1 ?_
  refine a_aload_n 0 rfl dX4_begins_4 ?_
  refine gfX4_179 dX4_begins_5 (fun g1 => ?_)
  refine a_iconst dX4_begins_8 ?_
  obtain ⟨g2, h⟩ := h
  refine a_isub dX4_begins_9 ?_
  obtain ⟨b3, h⟩ := h
  refine ldM_18 dX4_begins_10 b3 (fun g4 => ?_)
  refine a_istore_n (lv' := [(1, vi (M 18 ((M 0 27) - 1))), (0, .ref (ad 0))]) (Nat.le_of_ble_eq_true rfl) rfl dX4_begins_11 ?_
  refine a_aload_n 1 rfl dX4_begins_12 ?_
  refine gfX4_67 dX4_begins_13 ?_
  refine a_aload_n 1 rfl dX4_begins_16 ?_
  refine gfX4_179 dX4_begins_17 (fun g5 => ?_)
  refine a_iconst dX4_begins_20 ?_
  obtain ⟨g6, h⟩ := h
  refine a_isub dX4_begins_21 ?_
  obtain ⟨b7, h⟩ := h
  refine ldM_19 dX4_begins_22 b7 (fun g8 => ?_)
  refine a_istore_n (lv' := [(2, vi (M 19 ((M 0 27) - 1))), (1, vi (M 18 ((M 0 27) - 1))), (0, .ref (ad 0))]) (Nat.le_of_ble_eq_true rfl) rfl dX4_begins_23 ?_
  refine a_aload_n 2 rfl dX4_begins_24 ?_
  refine gfX4_58 dX4_begins_25 ?_
  refine a_sipush (by decide) dX4_begins_28 ?_
  refine a_iload_n 1 rfl dX4_begins_31 ?_
  obtain ⟨g9, h⟩ := h
  refine a_imul dX4_begins_32 ?_
  refine a_iload_n 0 rfl dX4_begins_33 ?_
  obtain ⟨g10, h⟩ := h
  refine a_iadd dX4_begins_34 ?_
  obtain ⟨b11, h⟩ := h
  refine ldM_16 dX4_begins_35 b11 (fun g12 => ?_)
  refine a_istore_n (lv' := [(3, vi (M 16 ((740 * (M 18 ((M 0 27) - 1))) + (M 19 ((M 0 27) - 1))))), (2, vi (M 19 ((M 0 27) - 1))), (1, vi (M 18 ((M 0 27) - 1))), (0, .ref (ad 0))]) (Nat.le_of_ble_eq_true rfl) rfl dX4_begins_36 ?_
  refine a_aload_n 3 rfl dX4_begins_37 ?_
  refine gfX4_175 dX4_begins_38 (fun g13 => ?_)
  refine a_if_ne 49 g13 (by decide) dX4_begins_41 (fun c14 => ?_) (fun c14 => ?_)
  · have h := h.1 c14
    refine AW.pick [3] rfl ?_
    exact s_X4_begins_J49 Q M h
  · have h := h.2 c14
    refine a_iload_n 2 rfl dX4_begins_44 ?_
    refine a_iload_n 1 rfl dX4_begins_45 ?_
    refine a_icmp_ne 68 g4 g8 (by decide) dX4_begins_46 (fun c15 => ?_) (fun c15 => ?_)
    · have h := h.1 c15
      refine a_iload_n 0 rfl dX4_begins_68 ?_
      refine a_iconst dX4_begins_69 ?_
      obtain ⟨g16, h⟩ := h
      refine a_idiv g12 (rgk 2 (by decide)) (by decide) dX4_begins_70 ?_
      refine a_aload_n 3 rfl dX4_begins_71 ?_
      refine gfX4_182 dX4_begins_72 (fun g17 => ?_)
      refine a_icmp_ne 97 g16 g17 (by decide) dX4_begins_75 (fun c18 => ?_) (fun c18 => ?_)
      · have h := h.1 c18
        refine a_aload_n 3 rfl dX4_begins_97 ?_
        refine a_dup rfl dX4_begins_98 ?_
        refine gfX4_215 dX4_begins_99 (fun g19 => ?_)
        refine a_iconst dX4_begins_102 ?_
        obtain ⟨g20, h⟩ := h
        refine a_iadd dX4_begins_103 ?_
        refine pfX4_215 dX4_begins_104 g20 ?_
        refine a_aload_n 3 rfl dX4_begins_107 ?_
        refine gfX4_20 dX4_begins_108 ?_
        refine a_iload_n 2 rfl dX4_begins_111 ?_
        obtain ⟨b21, h⟩ := h
        refine ldM_4 dX4_begins_112 b21 (fun g22 => ?_)
        refine a_aload_n 3 rfl dX4_begins_113 ?_
        refine gfX4_20 dX4_begins_114 ?_
        refine a_iload_n 1 rfl dX4_begins_117 ?_
        obtain ⟨b23, h⟩ := h
        refine ldM_4 dX4_begins_118 b23 (fun g24 => ?_)
        refine a_icmp_ne 130 g22 g24 (by decide) dX4_begins_119 (fun c25 => ?_) (fun c25 => ?_)
        · have h := h.1 c25
          refine a_aload_n 3 rfl dX4_begins_130 ?_
          refine a_aload_n 3 rfl dX4_begins_131 ?_
          refine gfX4_20 dX4_begins_132 ?_
          refine a_iload_n 2 rfl dX4_begins_135 ?_
          obtain ⟨b26, h⟩ := h
          refine ldM_4 dX4_begins_136 b26 (fun g27 => ?_)
          refine a_aload_n 3 rfl dX4_begins_137 ?_
          refine gfX4_20 dX4_begins_138 ?_
          refine a_iload_n 1 rfl dX4_begins_141 ?_
          obtain ⟨b28, h⟩ := h
          refine ldM_4 dX4_begins_142 b28 (fun g29 => ?_)
          refine kX4_221 (Nat.le_of_ble_eq_true rfl) (Nat.le_of_ble_eq_true rfl) dX4_begins_143 (s_X4_judgesNames g27 g29 h) (fun M30 h => ?_)
          exact a_vret rfl dX4_begins_146 h
        · have h := h.2 c25
          refine a_aload_n 3 rfl dX4_begins_122 ?_
          refine a_iconst dX4_begins_123 ?_
          refine kX4_218 (Nat.le_of_ble_eq_true rfl) (Nat.le_of_ble_eq_true rfl) dX4_begins_124 (s_X4_goesToPart (rgk 0 (by decide)) h) (fun M33 h => ?_)
          refine a_goto 146 (by decide) dX4_begins_127 ?_
          exact a_vret rfl dX4_begins_146 h
      · have h := h.2 c18
        refine a_aload_n 3 rfl dX4_begins_78 ?_
        refine a_iload_n 0 rfl dX4_begins_79 ?_
        refine a_iconst dX4_begins_80 ?_
        obtain ⟨g36, h⟩ := h
        refine a_irem g12 (rgk 2 (by decide)) (by decide) dX4_begins_81 ?_
        refine a_iconst dX4_begins_82 ?_
        refine a_icmp_ne 90 g36 (rgk 1 (by decide)) (by decide) dX4_begins_83 (fun c37 => ?_) (fun c37 => ?_)
        · have h := h.1 c37
          refine a_iconst dX4_begins_90 ?_
          refine kX4_191 (Nat.le_of_ble_eq_true rfl) (Nat.le_of_ble_eq_true rfl) dX4_begins_91 (s_X4_leaves (rgk 0 (by decide)) h) (fun M38 h => ?_)
          refine a_goto 146 (by decide) dX4_begins_94 ?_
          exact a_vret rfl dX4_begins_146 h
        · have h := h.2 c37
          refine a_iconst dX4_begins_86 ?_
          refine a_goto 91 (by decide) dX4_begins_87 ?_
          refine kX4_191 (Nat.le_of_ble_eq_true rfl) (Nat.le_of_ble_eq_true rfl) dX4_begins_91 (s_X4_leaves (rgk 1 (by decide)) h) (fun M41 h => ?_)
          refine a_goto 146 (by decide) dX4_begins_94 ?_
          exact a_vret rfl dX4_begins_146 h
    · have h := h.2 c15
      refine AW.pick [3] rfl ?_
      exact s_X4_begins_J49 Q M h
set_option maxRecDepth 100000 in
theorem s_X4_goesOn_J83 {l : Launch} {D : va_G} {ad : Nat → Nat} {cA : Nat → ClassId} (Q : Mem → Prop) (M : Mem) (h : w_X4_goesOn_J83 Q M) : AW (xM l D ad cA) mX4_goesOn (qV Q) 83 [(0, .ref (ad 0))] [] M := by
  refine a_aload_n 0 rfl dX4_goesOn_83 ?_
  refine a_aload_n 0 rfl dX4_goesOn_84 ?_
  refine gfX4_185 dX4_goesOn_85 (fun g1 => ?_)
  refine kX4_208 (Nat.le_of_ble_eq_true rfl) (Nat.le_of_ble_eq_true rfl) dX4_goesOn_88 (s_X4_ends g1 h) (fun M2 h => ?_)
  refine a_goto 100 (by decide) dX4_goesOn_91 ?_
  exact a_vret rfl dX4_goesOn_100 h
set_option maxRecDepth 100000 in
theorem s_X4_goesOn_J63 {l : Launch} {D : va_G} {ad : Nat → Nat} {cA : Nat → ClassId} (Q : Mem → Prop) (M : Mem) (x2 : Int) (e2 : rg x2) (h : w_X4_goesOn_J63 Q M x2) : AW (xM l D ad cA) mX4_goesOn (qV Q) 63 [(0, .ref (ad 0)), (2, vi x2)] [] M := by
  refine a_aload_n 0 rfl dX4_goesOn_63 ?_
  refine gfX4_185 dX4_goesOn_64 (fun g1 => ?_)
  refine a_if_ne 83 g1 (by decide) dX4_goesOn_67 (fun c2 => ?_) (fun c2 => ?_)
  · have h := h.1 c2
    refine AW.pick [0] rfl ?_
    exact s_X4_goesOn_J83 Q M h
  · have h := h.2 c2
    refine a_aload_n 0 rfl dX4_goesOn_70 ?_
    refine a_aload_n 0 rfl dX4_goesOn_71 ?_
    refine gfX4_20 dX4_goesOn_72 ?_
    refine a_iload_n 1 rfl dX4_goesOn_75 ?_
    obtain ⟨b3, h⟩ := h
    refine ldM_4 dX4_goesOn_76 b3 (fun g4 => ?_)
    refine kX4_139 (Nat.le_of_ble_eq_true rfl) (Nat.le_of_ble_eq_true rfl) dX4_goesOn_77 (s_X4_isFolded g4 h) (fun r6 M5 g7 h => ?_)
    refine a_if_ne 94 g7 (by decide) dX4_goesOn_80 (fun c8 => ?_) (fun c8 => ?_)
    · have h := h.1 c8
      refine a_aload_n 0 rfl dX4_goesOn_94 ?_
      refine a_iconst dX4_goesOn_95 ?_
      refine a_iconst dX4_goesOn_96 ?_
      refine kX4_211 (Nat.le_of_ble_eq_true rfl) (Nat.le_of_ble_eq_true rfl) dX4_goesOn_97 (s_X4_unfoldsSome (rgk 1 (by decide)) (rgk 1 (by decide)) h) (fun M9 h => ?_)
      exact a_vret rfl dX4_goesOn_100 h
    · have h := h.2 c8
      refine AW.pick [0] rfl ?_
      exact s_X4_goesOn_J83 Q M5 h
set_option maxRecDepth 100000 in
theorem s_X4_goesOn {l : Launch} {D : va_G} {ad : Nat → Nat} {cA : Nat → ClassId} {M : Mem} {Q : Mem → Prop} (h : w_X4_goesOn M Q) : AM (xM l D ad cA) yX4_goesOn mX4_goesOn [.ref (ad 0)] M (qV Q) := by
  refine AM.ofAW (by decide +kernel) rfl (Nat.le_of_ble_eq_true rfl) ?_
  show AW (xM l D ad cA) mX4_goesOn (qV Q) 0 [(0, .ref (ad 0))] [] M
  refine a_aload_n 0 rfl dX4_goesOn_0 ?_
  refine gfX4_179 dX4_goesOn_1 (fun g1 => ?_)
  refine a_iconst dX4_goesOn_4 ?_
  obtain ⟨g2, h⟩ := h
  refine a_isub dX4_goesOn_5 ?_
  refine a_istore_n (lv' := [(1, vi ((M 0 27) - 1)), (0, .ref (ad 0))]) (Nat.le_of_ble_eq_true rfl) rfl dX4_goesOn_6 ?_
  refine a_aload_n 1 rfl dX4_goesOn_7 ?_
  refine gfX4_64 dX4_goesOn_8 ?_
  refine a_iload_n 0 rfl dX4_goesOn_11 ?_
  obtain ⟨b3, h⟩ := h
  refine ldM_18 dX4_goesOn_12 b3 (fun g4 => ?_)
  refine a_istore_n (lv' := [(2, vi (M 18 ((M 0 27) - 1))), (1, vi ((M 0 27) - 1)), (0, .ref (ad 0))]) (Nat.le_of_ble_eq_true rfl) rfl dX4_goesOn_13 ?_
  refine a_aload_n 2 rfl dX4_goesOn_14 ?_
  refine gfX4_175 dX4_goesOn_15 (fun g5 => ?_)
  refine a_if_eq 29 g5 (by decide) dX4_goesOn_18 (fun c6 => ?_) (fun c6 => ?_)
  · have h := h.1 c6
    refine a_aload_n 2 rfl dX4_goesOn_29 ?_
    refine gfX4_185 dX4_goesOn_30 (fun g7 => ?_)
    refine a_if_eq 63 g7 (by decide) dX4_goesOn_33 (fun c8 => ?_) (fun c8 => ?_)
    · have h := h.1 c8
      refine AW.pick [2, 0] rfl ?_
      exact s_X4_goesOn_J63 Q M (M 18 ((M 0 27) - 1)) g4 h
    · have h := h.2 c8
      refine a_aload_n 2 rfl dX4_goesOn_36 ?_
      refine gfX4_70 dX4_goesOn_37 ?_
      refine a_iload_n 1 rfl dX4_goesOn_40 ?_
      obtain ⟨b9, h⟩ := h
      refine ldM_20 dX4_goesOn_41 b9 (fun g10 => ?_)
      refine a_aload_n 2 rfl dX4_goesOn_42 ?_
      refine a_iload_n 0 rfl dX4_goesOn_43 ?_
      refine kX4_117 (Nat.le_of_ble_eq_true rfl) (Nat.le_of_ble_eq_true rfl) dX4_goesOn_44 (s_X4_partsOf g4 h) (fun r12 M11 g13 h => ?_)
      refine a_icmp_ge 63 g10 g13 (by decide) dX4_goesOn_47 (fun c14 => ?_) (fun c14 => ?_)
      · have h := h.1 c14
        refine AW.pick [2, 0] rfl ?_
        exact s_X4_goesOn_J63 Q M11 (M 18 ((M 0 27) - 1)) g4 h
      · have h := h.2 c14
        refine a_aload_n 2 rfl dX4_goesOn_50 ?_
        refine a_aload_n 2 rfl dX4_goesOn_51 ?_
        refine gfX4_70 dX4_goesOn_52 ?_
        refine a_iload_n 1 rfl dX4_goesOn_55 ?_
        obtain ⟨b15, h⟩ := h
        refine ldM_20 dX4_goesOn_56 b15 (fun g16 => ?_)
        refine kX4_218 (Nat.le_of_ble_eq_true rfl) (Nat.le_of_ble_eq_true rfl) dX4_goesOn_57 (s_X4_goesToPart g16 h) (fun M17 h => ?_)
        refine a_goto 100 (by decide) dX4_goesOn_60 ?_
        exact a_vret rfl dX4_goesOn_100 h
  · have h := h.2 c6
    refine a_aload_n 2 rfl dX4_goesOn_21 ?_
    refine a_iconst dX4_goesOn_22 ?_
    refine kX4_191 (Nat.le_of_ble_eq_true rfl) (Nat.le_of_ble_eq_true rfl) dX4_goesOn_23 (s_X4_leaves (rgk 0 (by decide)) h) (fun M20 h => ?_)
    refine a_goto 100 (by decide) dX4_goesOn_26 ?_
    exact a_vret rfl dX4_goesOn_100 h
set_option maxRecDepth 100000 in
theorem s_X4_judges_L11 {l : Launch} {D : va_G} {ad : Nat → Nat} {cA : Nat → ClassId} (Q : Int → Mem → Prop) : ∀ (n : Nat) (M : Mem), w_X4_judges_L11 Q n M → AW (xM l D ad cA) mX4_judges (qI Q) 11 [(0, .ref (ad 0))] [] M := by
  intro n
  induction n with
  | zero => intro M h; exact absurd h id
  | succ n ih =>
    intro M h
    refine a_aload_n 0 rfl dX4_judges_11 ?_
    refine gfX4_179 dX4_judges_12 (fun g1 => ?_)
    refine a_if_le 65 g1 (by decide) dX4_judges_15 (fun c2 => ?_) (fun c2 => ?_)
    · have h := h.1 c2
      refine a_aload_n 0 rfl dX4_judges_65 ?_
      refine gfX4_185 dX4_judges_66 (fun g3 => ?_)
      obtain ⟨z4, h⟩ := h
      exact a_zret rfl dX4_judges_69 z4 h
    · have h := h.2 c2
      refine a_aload_n 0 rfl dX4_judges_18 ?_
      refine gfX4_70 dX4_judges_19 ?_
      refine a_aload_n 0 rfl dX4_judges_22 ?_
      refine gfX4_179 dX4_judges_23 (fun g5 => ?_)
      refine a_iconst dX4_judges_26 ?_
      obtain ⟨g6, h⟩ := h
      refine a_isub dX4_judges_27 ?_
      obtain ⟨b7, h⟩ := h
      refine ldM_20 dX4_judges_28 b7 (fun g8 => ?_)
      refine a_istore_n (lv' := [(3, vi (M 20 ((M 0 27) - 1))), (0, .ref (ad 0))]) (Nat.le_of_ble_eq_true rfl) rfl dX4_judges_29 ?_
      refine a_iload_n 0 rfl dX4_judges_30 ?_
      refine a_if_ne 41 g8 (by decide) dX4_judges_31 (fun c9 => ?_) (fun c9 => ?_)
      · have h := h.1 c9
        refine a_iload_n 0 rfl dX4_judges_41 ?_
        refine a_bipush (by decide) dX4_judges_42 ?_
        refine a_icmp_ge 54 g8 (rgk 9 (by decide)) (by decide) dX4_judges_44 (fun c10 => ?_) (fun c10 => ?_)
        · have h := h.1 c10
          refine a_aload_n 1 rfl dX4_judges_54 ?_
          refine a_aload_n 1 rfl dX4_judges_55 ?_
          refine gfX4_185 dX4_judges_56 (fun g11 => ?_)
          refine kX4_208 (Nat.le_of_ble_eq_true rfl) (Nat.le_of_ble_eq_true rfl) dX4_judges_59 (s_X4_ends g11 h) (fun M12 h => ?_)
          refine a_goto 11 (by decide) dX4_judges_62 ?_
          refine AW.pick [1] rfl ?_
          exact ih M12 h
        · have h := h.2 c10
          refine a_aload_n 1 rfl dX4_judges_47 ?_
          refine kX4_227 (Nat.le_of_ble_eq_true rfl) (Nat.le_of_ble_eq_true rfl) dX4_judges_48 (s_X4_goesOn h) (fun M15 h => ?_)
          refine a_goto 62 (by decide) dX4_judges_51 ?_
          refine a_goto 11 (by decide) dX4_judges_62 ?_
          refine AW.pick [1] rfl ?_
          exact ih M15 h
      · have h := h.2 c9
        refine a_aload_n 1 rfl dX4_judges_34 ?_
        refine kX4_224 (Nat.le_of_ble_eq_true rfl) (Nat.le_of_ble_eq_true rfl) dX4_judges_35 (s_X4_begins h) (fun M18 h => ?_)
        refine a_goto 62 (by decide) dX4_judges_38 ?_
        refine a_goto 11 (by decide) dX4_judges_62 ?_
        refine AW.pick [1] rfl ?_
        exact ih M18 h
set_option maxRecDepth 100000 in
theorem s_X4_judges {l : Launch} {D : va_G} {ad : Nat → Nat} {cA : Nat → ClassId} {M : Mem} {x1 : Int} {x2 : Int} {Q : Int → Mem → Prop} (e1 : rg x1) (e2 : rg x2) (h : w_X4_judges M x1 x2 Q) : AM (xM l D ad cA) yX4_judges mX4_judges [.ref (ad 0), vi x1, vi x2] M (qI Q) := by
  refine AM.ofAW (by decide +kernel) rfl (Nat.le_of_ble_eq_true rfl) ?_
  show AW (xM l D ad cA) mX4_judges (qI Q) 0 [(0, .ref (ad 0)), (1, vi x1), (2, vi x2)] [] M
  refine a_aload_n 0 rfl dX4_judges_0 ?_
  refine a_iconst dX4_judges_1 ?_
  refine pfX4_179 dX4_judges_2 (rgk 0 (by decide)) ?_
  refine a_aload_n 0 rfl dX4_judges_5 ?_
  refine a_iload_n 1 rfl dX4_judges_6 ?_
  refine a_iload_n 2 rfl dX4_judges_7 ?_
  refine kX4_198 (Nat.le_of_ble_eq_true rfl) (Nat.le_of_ble_eq_true rfl) dX4_judges_8 (s_X4_goesTo e1 e2 h) (fun M1 h => ?_)
  obtain ⟨n11, h⟩ := h
  refine AW.pick [0] rfl ?_
  exact s_X4_judges_L11 Q n11 M1 h
set_option maxRecDepth 100000 in
theorem s_X4_check_J175 {l : Launch} {D : va_G} {ad : Nat → Nat} {cA : Nat → ClassId} (Q : Int → Mem → Prop) (M : Mem) (y1 : Int) (y2 : Int) (f1 : rg y1) (f2 : rg y2) (h : w_X4_check_J175 Q M y1 y2) : AW (xM l D ad cA) mX4_check (qI Q) 175 [(0, .ref (ad 0))] [vi y2, vi y1, .ref (ad 21)] M := by
  obtain ⟨b1, h⟩ := h
  refine stM_21 dX4_check_175 b1 f2 ?_
  refine a_aload_n 0 rfl dX4_check_176 ?_
  refine a_iconst dX4_check_177 ?_
  refine pfX4_233 dX4_check_178 (Or.inr rfl) ?_
  refine a_aload_n 0 rfl dX4_check_181 ?_
  refine gfX4_73 dX4_check_182 ?_
  refine a_iconst dX4_check_185 ?_
  obtain ⟨b2, h⟩ := h
  refine ldM_21 dX4_check_186 b2 (fun g3 => ?_)
  exact a_iret rfl dX4_check_187 g3 h
set_option maxRecDepth 100000 in
theorem s_X4_check_J160 {l : Launch} {D : va_G} {ad : Nat → Nat} {cA : Nat → ClassId} (Q : Int → Mem → Prop) (M : Mem) (x3 : Int) (y1 : Int) (y2 : Int) (e3 : rg x3) (f1 : rg y1) (f2 : rg y2) (h : w_X4_check_J160 Q M x3 y1 y2) : AW (xM l D ad cA) mX4_check (qI Q) 160 [(0, .ref (ad 0)), (3, vi x3)] [vi y2, vi y1, .ref (ad 21)] M := by
  obtain ⟨b1, h⟩ := h
  refine stM_21 dX4_check_160 b1 f2 ?_
  refine a_aload_n 0 rfl dX4_check_161 ?_
  refine gfX4_73 dX4_check_162 ?_
  refine a_iconst dX4_check_165 ?_
  refine a_iload_n 1 rfl dX4_check_166 ?_
  refine a_if_eq 174 e3 (by decide) dX4_check_167 (fun c2 => ?_) (fun c2 => ?_)
  · have h := h.1 c2
    refine a_iconst dX4_check_174 ?_
    refine AW.pick [0] rfl ?_
    exact s_X4_check_J175 Q (up M 21 y1 y2) 4 0 (rgk 4 (by decide)) (rgk 0 (by decide)) h
  · have h := h.2 c2
    refine a_iconst dX4_check_170 ?_
    refine a_goto 175 (by decide) dX4_check_171 ?_
    refine AW.pick [0] rfl ?_
    exact s_X4_check_J175 Q (up M 21 y1 y2) 4 1 (rgk 4 (by decide)) (rgk 1 (by decide)) h
set_option maxRecDepth 100000 in
theorem s_X4_check_J141 {l : Launch} {D : va_G} {ad : Nat → Nat} {cA : Nat → ClassId} (Q : Int → Mem → Prop) (M : Mem) (x3 : Int) (y1 : Int) (y2 : Int) (e3 : rg x3) (f1 : rg y1) (f2 : rg y2) (h : w_X4_check_J141 Q M x3 y1 y2) : AW (xM l D ad cA) mX4_check (qI Q) 141 [(0, .ref (ad 0)), (3, vi x3)] [vi y2, vi y1, .ref (ad 21)] M := by
  obtain ⟨b1, h⟩ := h
  refine stM_21 dX4_check_141 b1 f2 ?_
  refine a_aload_n 0 rfl dX4_check_142 ?_
  refine gfX4_73 dX4_check_143 ?_
  refine a_iconst dX4_check_146 ?_
  refine a_iload_n 1 rfl dX4_check_147 ?_
  refine a_if_eq 156 e3 (by decide) dX4_check_148 (fun c2 => ?_) (fun c2 => ?_)
  · have h := h.1 c2
    refine a_aload_n 0 rfl dX4_check_156 ?_
    refine gfX4_205 dX4_check_157 (fun g3 => ?_)
    refine AW.pick [0, 1] rfl ?_
    exact s_X4_check_J160 Q (up M 21 y1 y2) x3 3 ((up M 21 y1 y2) 0 22) e3 (rgk 3 (by decide)) g3 h
  · have h := h.2 c2
    refine a_bipush (by decide) dX4_check_151 ?_
    refine a_goto 160 (by decide) dX4_check_153 ?_
    refine AW.pick [0, 1] rfl ?_
    exact s_X4_check_J160 Q (up M 21 y1 y2) x3 3 (-9) e3 (rgk 3 (by decide)) (rgk (-9) (by decide)) h
set_option maxRecDepth 100000 in
theorem s_X4_check {l : Launch} {D : va_G} {ad : Nat → Nat} {cA : Nat → ClassId} {M : Mem} {x1 : Int} {x2 : Int} {Q : Int → Mem → Prop} (e1 : rg x1) (e2 : rg x2) (h : w_X4_check M x1 x2 Q) : AM (xM l D ad cA) yX4_check mX4_check [.ref (ad 0), vi x1, vi x2] M (qI Q) := by
  refine AM.ofAW (by decide +kernel) rfl (Nat.le_of_ble_eq_true rfl) ?_
  show AW (xM l D ad cA) mX4_check (qI Q) 0 [(0, .ref (ad 0)), (1, vi x1), (2, vi x2)] [] M
  refine a_aload_n 0 rfl dX4_check_0 ?_
  refine a_iload_n 1 rfl dX4_check_1 ?_
  refine kX4_111 (Nat.le_of_ble_eq_true rfl) (Nat.le_of_ble_eq_true rfl) dX4_check_2 (s_X4_isTerm e1 h) (fun r2 M1 g3 h => ?_)
  refine a_if_eq 16 g3 (by decide) dX4_check_5 (fun c4 => ?_) (fun c4 => ?_)
  · have h := h.1 c4
    refine a_iconst dX4_check_16 ?_
    exact a_iret rfl dX4_check_17 (rgk (-1) (by decide)) h
  · have h := h.2 c4
    refine a_aload_n 0 rfl dX4_check_8 ?_
    refine a_iload_n 2 rfl dX4_check_9 ?_
    refine kX4_111 (Nat.le_of_ble_eq_true rfl) (Nat.le_of_ble_eq_true rfl) dX4_check_10 (s_X4_isTerm e2 h) (fun r6 M5 g7 h => ?_)
    refine a_if_ne 18 g7 (by decide) dX4_check_13 (fun c8 => ?_) (fun c8 => ?_)
    · have h := h.1 c8
      refine a_aload_n 0 rfl dX4_check_18 ?_
      refine a_iload_n 1 rfl dX4_check_19 ?_
      refine kX4_154 (Nat.le_of_ble_eq_true rfl) (Nat.le_of_ble_eq_true rfl) dX4_check_20 (s_X4_isClosed e1 h) (fun r10 M9 g11 h => ?_)
      refine a_if_eq 34 g11 (by decide) dX4_check_23 (fun c12 => ?_) (fun c12 => ?_)
      · have h := h.1 c12
        refine a_bipush (by decide) dX4_check_34 ?_
        exact a_iret rfl dX4_check_36 (rgk (-3) (by decide)) h
      · have h := h.2 c12
        refine a_aload_n 0 rfl dX4_check_26 ?_
        refine a_iload_n 2 rfl dX4_check_27 ?_
        refine kX4_154 (Nat.le_of_ble_eq_true rfl) (Nat.le_of_ble_eq_true rfl) dX4_check_28 (s_X4_isClosed e2 h) (fun r14 M13 g15 h => ?_)
        refine a_if_ne 37 g15 (by decide) dX4_check_31 (fun c16 => ?_) (fun c16 => ?_)
        · have h := h.1 c16
          refine a_aload_n 0 rfl dX4_check_37 ?_
          refine kX4_151 (Nat.le_of_ble_eq_true rfl) (Nat.le_of_ble_eq_true rfl) dX4_check_38 (s_X4_findNames h) (fun M17 h => ?_)
          refine a_aload_n 0 rfl dX4_check_41 ?_
          refine a_iconst dX4_check_42 ?_
          refine pfX4_169 dX4_check_43 (rgk 0 (by decide)) ?_
          refine a_aload_n 0 rfl dX4_check_46 ?_
          refine a_iconst dX4_check_47 ?_
          refine pfX4_215 dX4_check_48 (rgk 0 (by decide)) ?_
          refine a_aload_n 0 rfl dX4_check_51 ?_
          refine a_bipush (by decide) dX4_check_52 ?_
          refine pfX4_202 dX4_check_54 (rgk (-9) (by decide)) ?_
          refine a_aload_n 0 rfl dX4_check_57 ?_
          refine a_bipush (by decide) dX4_check_58 ?_
          refine pfX4_205 dX4_check_60 (rgk (-9) (by decide)) ?_
          refine a_aload_n 0 rfl dX4_check_63 ?_
          refine a_iconst dX4_check_64 ?_
          refine pfX4_175 dX4_check_65 (Or.inl rfl) ?_
          refine a_aload_n 0 rfl dX4_check_68 ?_
          refine a_dup rfl dX4_check_69 ?_
          refine gfX4_182 dX4_check_70 (fun g20 => ?_)
          refine a_iconst dX4_check_73 ?_
          obtain ⟨g21, h⟩ := h
          refine a_iadd dX4_check_74 ?_
          refine pfX4_182 dX4_check_75 g21 ?_
          refine a_aload_n 0 rfl dX4_check_78 ?_
          refine a_iload_n 1 rfl dX4_check_79 ?_
          refine a_iload_n 2 rfl dX4_check_80 ?_
          refine kX4_230 (Nat.le_of_ble_eq_true rfl) (Nat.le_of_ble_eq_true rfl) dX4_check_81 (s_X4_judges e1 e2 h) (fun r23 M22 g24 h => ?_)
          refine a_istore_n (lv' := [(3, vi r23), (0, .ref (ad 0)), (1, vi x1), (2, vi x2)]) (Nat.le_of_ble_eq_true rfl) rfl dX4_check_84 ?_
          refine a_aload_n 1 rfl dX4_check_85 ?_
          refine a_aload_n 1 rfl dX4_check_86 ?_
          refine gfX4_84 dX4_check_87 (fun g25 => ?_)
          refine pfX4_87 dX4_check_90 g25 ?_
          refine a_aload_n 1 rfl dX4_check_93 ?_
          refine gfX4_175 dX4_check_94 (fun g26 => ?_)
          refine a_if_eq 103 g26 (by decide) dX4_check_97 (fun c27 => ?_) (fun c27 => ?_)
          · have h := h.1 c27
            refine a_aload_n 1 rfl dX4_check_103 ?_
            refine gfX4_73 dX4_check_104 ?_
            refine a_iconst dX4_check_107 ?_
            refine a_aload_n 1 rfl dX4_check_108 ?_
            refine gfX4_169 dX4_check_109 (fun g28 => ?_)
            obtain ⟨b29, h⟩ := h
            refine stM_21 dX4_check_112 b29 g28 ?_
            refine a_aload_n 1 rfl dX4_check_113 ?_
            refine gfX4_73 dX4_check_114 ?_
            refine a_iconst dX4_check_117 ?_
            refine a_aload_n 1 rfl dX4_check_118 ?_
            refine gfX4_215 dX4_check_119 (fun g30 => ?_)
            obtain ⟨b31, h⟩ := h
            refine stM_21 dX4_check_122 b31 g30 ?_
            refine a_aload_n 1 rfl dX4_check_123 ?_
            refine gfX4_73 dX4_check_124 ?_
            refine a_iconst dX4_check_127 ?_
            refine a_iload_n 0 rfl dX4_check_128 ?_
            refine a_if_eq 137 g24 (by decide) dX4_check_129 (fun c32 => ?_) (fun c32 => ?_)
            · have h := h.1 c32
              refine a_aload_n 1 rfl dX4_check_137 ?_
              refine gfX4_202 dX4_check_138 (fun g33 => ?_)
              refine AW.pick [1, 0] rfl ?_
              exact s_X4_check_J141 Q (up (up (up M22 0 5 (M22 0 4)) 21 0 ((up M22 0 5 (M22 0 4)) 0 19)) 21 1 ((up (up M22 0 5 (M22 0 4)) 21 0 ((up M22 0 5 (M22 0 4)) 0 19)) 0 20)) r23 2 ((up (up (up M22 0 5 (M22 0 4)) 21 0 ((up M22 0 5 (M22 0 4)) 0 19)) 21 1 ((up (up M22 0 5 (M22 0 4)) 21 0 ((up M22 0 5 (M22 0 4)) 0 19)) 0 20)) 0 21) g24 (rgk 2 (by decide)) g33 h
            · have h := h.2 c32
              refine a_bipush (by decide) dX4_check_132 ?_
              refine a_goto 141 (by decide) dX4_check_134 ?_
              refine AW.pick [1, 0] rfl ?_
              exact s_X4_check_J141 Q (up (up (up M22 0 5 (M22 0 4)) 21 0 ((up M22 0 5 (M22 0 4)) 0 19)) 21 1 ((up (up M22 0 5 (M22 0 4)) 21 0 ((up M22 0 5 (M22 0 4)) 0 19)) 0 20)) r23 2 (-9) g24 (rgk 2 (by decide)) (rgk (-9) (by decide)) h
          · have h := h.2 c27
            refine a_bipush (by decide) dX4_check_100 ?_
            exact a_iret rfl dX4_check_102 (rgk (-6) (by decide)) h
        · have h := h.2 c16
          refine a_bipush (by decide) dX4_check_34 ?_
          exact a_iret rfl dX4_check_36 (rgk (-3) (by decide)) h
    · have h := h.2 c8
      refine a_iconst dX4_check_16 ?_
      exact a_iret rfl dX4_check_17 (rgk (-1) (by decide)) h
set_option maxRecDepth 100000 in
theorem s_X4_checked {l : Launch} {D : va_G} {ad : Nat → Nat} {cA : Nat → ClassId} {M : Mem} {x1 : Int} {Q : Int → Mem → Prop} (e1 : rg x1) (h : w_X4_checked M x1 Q) : AM (xM l D ad cA) yX4_checked mX4_checked [.ref (ad 0), vi x1] M (qI Q) := by
  refine AM.ofAW (by decide +kernel) rfl (Nat.le_of_ble_eq_true rfl) ?_
  show AW (xM l D ad cA) mX4_checked (qI Q) 0 [(0, .ref (ad 0)), (1, vi x1)] [] M
  refine a_iload_n 1 rfl dX4_checked_0 ?_
  refine a_iconst dX4_checked_1 ?_
  refine a_iconst dX4_checked_2 ?_
  refine kX4_80 (Nat.le_of_ble_eq_true rfl) (Nat.le_of_ble_eq_true rfl) dX4_checked_3 (s_X4_within e1 (rgk 0 (by decide)) (rgk 4 (by decide)) h) (fun r2 M1 g3 h => ?_)
  refine a_if_ne 12 g3 (by decide) dX4_checked_6 (fun c4 => ?_) (fun c4 => ?_)
  · have h := h.1 c4
    refine a_aload_n 0 rfl dX4_checked_12 ?_
    refine gfX4_233 dX4_checked_13 (fun g5 => ?_)
    refine a_if_eq 28 g5 (by decide) dX4_checked_16 (fun c6 => ?_) (fun c6 => ?_)
    · have h := h.1 c6
      refine a_bipush (by decide) dX4_checked_28 ?_
      exact a_iret rfl dX4_checked_30 (rgk (-3) (by decide)) h
    · have h := h.2 c6
      refine a_aload_n 0 rfl dX4_checked_19 ?_
      refine gfX4_73 dX4_checked_20 ?_
      refine a_iload_n 1 rfl dX4_checked_23 ?_
      obtain ⟨b7, h⟩ := h
      refine ldM_21 dX4_checked_24 b7 (fun g8 => ?_)
      refine a_goto 30 (by decide) dX4_checked_25 ?_
      exact a_iret rfl dX4_checked_30 g8 h
  · have h := h.2 c4
    refine a_bipush (by decide) dX4_checked_9 ?_
    exact a_iret rfl dX4_checked_11 (rgk (-2) (by decide)) h
set_option maxRecDepth 100000 in
theorem s_X4_manyNames_L4 {l : Launch} {D : va_G} {ad : Nat → Nat} {cA : Nat → ClassId} (Q : Int → Mem → Prop) : ∀ (n : Nat) (M : Mem) (x1 : Int) (x2 : Int) (x3 : Int), rg x1 → rg x2 → rg x3 → w_X4_manyNames_L4 Q n M x1 x2 x3 → AW (xM l D ad cA) mX4_manyNames (qI Q) 4 [(0, .ref (ad 0)), (1, vi x1), (2, vi x2), (3, vi x3)] [] M := by
  intro n
  induction n with
  | zero => intro M x1 x2 x3 e1 e2 e3 h; exact absurd h id
  | succ n ih =>
    intro M x1 x2 x3 e1 e2 e3 h
    refine a_iload_n 3 rfl dX4_manyNames_4 ?_
    refine a_aload_n 0 rfl dX4_manyNames_5 ?_
    refine gfX4_76 dX4_manyNames_6 (fun g1 => ?_)
    refine a_icmp_ge 57 e3 g1 (by decide) dX4_manyNames_9 (fun c2 => ?_) (fun c2 => ?_)
    · have h := h.1 c2
      refine a_iload_n 2 rfl dX4_manyNames_57 ?_
      exact a_iret rfl dX4_manyNames_58 e2 h
    · have h := h.2 c2
      refine a_iload_n 2 rfl dX4_manyNames_12 ?_
      refine a_iload_n 1 rfl dX4_manyNames_13 ?_
      refine a_if_eq 33 e1 (by decide) dX4_manyNames_14 (fun c3 => ?_) (fun c3 => ?_)
      · have h := h.1 c3
        refine a_aload_n 0 rfl dX4_manyNames_33 ?_
        refine gfX4_13 dX4_manyNames_34 ?_
        refine a_iload_n 3 rfl dX4_manyNames_37 ?_
        obtain ⟨b4, h⟩ := h
        refine ldM_2 dX4_manyNames_38 b4 (fun g5 => ?_)
        refine a_bipush (by decide) dX4_manyNames_39 ?_
        refine a_icmp_eq 48 g5 (rgk (-9) (by decide)) (by decide) dX4_manyNames_41 (fun c6 => ?_) (fun c6 => ?_)
        · have h := h.1 c6
          refine a_iconst dX4_manyNames_48 ?_
          obtain ⟨g7, h⟩ := h
          refine a_iadd dX4_manyNames_49 ?_
          refine a_istore_n (lv' := [(2, vi (x2 + 0)), (0, .ref (ad 0)), (1, vi x1), (3, vi x3)]) (Nat.le_of_ble_eq_true rfl) rfl dX4_manyNames_50 ?_
          obtain ⟨g8, h⟩ := h
          refine a_iinc (lv' := [(3, vi (x3 + 1)), (2, vi (x2 + 0)), (0, .ref (ad 0)), (1, vi x1)]) 3 rfl (Nat.le_of_ble_eq_true rfl) rfl dX4_manyNames_51 ?_
          refine a_goto 4 (by decide) dX4_manyNames_54 ?_
          refine AW.pick [2, 3, 1, 0] rfl ?_
          exact ih M x1 (x2 + 0) (x3 + 1) e1 g7 g8 h
        · have h := h.2 c6
          refine a_iconst dX4_manyNames_44 ?_
          refine a_goto 49 (by decide) dX4_manyNames_45 ?_
          obtain ⟨g9, h⟩ := h
          refine a_iadd dX4_manyNames_49 ?_
          refine a_istore_n (lv' := [(2, vi (x2 + 1)), (0, .ref (ad 0)), (1, vi x1), (3, vi x3)]) (Nat.le_of_ble_eq_true rfl) rfl dX4_manyNames_50 ?_
          obtain ⟨g10, h⟩ := h
          refine a_iinc (lv' := [(3, vi (x3 + 1)), (2, vi (x2 + 1)), (0, .ref (ad 0)), (1, vi x1)]) 3 rfl (Nat.le_of_ble_eq_true rfl) rfl dX4_manyNames_51 ?_
          refine a_goto 4 (by decide) dX4_manyNames_54 ?_
          refine AW.pick [2, 3, 1, 0] rfl ?_
          exact ih M x1 (x2 + 1) (x3 + 1) e1 g9 g10 h
      · have h := h.2 c3
        refine a_aload_n 0 rfl dX4_manyNames_17 ?_
        refine a_iload_n 3 rfl dX4_manyNames_18 ?_
        refine kX4_139 (Nat.le_of_ble_eq_true rfl) (Nat.le_of_ble_eq_true rfl) dX4_manyNames_19 (s_X4_isFolded e3 h) (fun r12 M11 g13 h => ?_)
        refine a_if_eq 29 g13 (by decide) dX4_manyNames_22 (fun c14 => ?_) (fun c14 => ?_)
        · have h := h.1 c14
          refine a_iconst dX4_manyNames_29 ?_
          refine a_goto 49 (by decide) dX4_manyNames_30 ?_
          obtain ⟨g15, h⟩ := h
          refine a_iadd dX4_manyNames_49 ?_
          refine a_istore_n (lv' := [(2, vi (x2 + 0)), (0, .ref (ad 0)), (1, vi x1), (3, vi x3)]) (Nat.le_of_ble_eq_true rfl) rfl dX4_manyNames_50 ?_
          obtain ⟨g16, h⟩ := h
          refine a_iinc (lv' := [(3, vi (x3 + 1)), (2, vi (x2 + 0)), (0, .ref (ad 0)), (1, vi x1)]) 3 rfl (Nat.le_of_ble_eq_true rfl) rfl dX4_manyNames_51 ?_
          refine a_goto 4 (by decide) dX4_manyNames_54 ?_
          refine AW.pick [2, 3, 1, 0] rfl ?_
          exact ih M11 x1 (x2 + 0) (x3 + 1) e1 g15 g16 h
        · have h := h.2 c14
          refine a_iconst dX4_manyNames_25 ?_
          refine a_goto 49 (by decide) dX4_manyNames_26 ?_
          obtain ⟨g17, h⟩ := h
          refine a_iadd dX4_manyNames_49 ?_
          refine a_istore_n (lv' := [(2, vi (x2 + 1)), (0, .ref (ad 0)), (1, vi x1), (3, vi x3)]) (Nat.le_of_ble_eq_true rfl) rfl dX4_manyNames_50 ?_
          obtain ⟨g18, h⟩ := h
          refine a_iinc (lv' := [(3, vi (x3 + 1)), (2, vi (x2 + 1)), (0, .ref (ad 0)), (1, vi x1)]) 3 rfl (Nat.le_of_ble_eq_true rfl) rfl dX4_manyNames_51 ?_
          refine a_goto 4 (by decide) dX4_manyNames_54 ?_
          refine AW.pick [2, 3, 1, 0] rfl ?_
          exact ih M11 x1 (x2 + 1) (x3 + 1) e1 g17 g18 h
set_option maxRecDepth 100000 in
theorem s_X4_manyNames {l : Launch} {D : va_G} {ad : Nat → Nat} {cA : Nat → ClassId} {M : Mem} {x1 : Int} {Q : Int → Mem → Prop} (e1 : rg x1) (h : w_X4_manyNames M x1 Q) : AM (xM l D ad cA) yX4_manyNames mX4_manyNames [.ref (ad 0), vi x1] M (qI Q) := by
  refine AM.ofAW (by decide +kernel) rfl (Nat.le_of_ble_eq_true rfl) ?_
  show AW (xM l D ad cA) mX4_manyNames (qI Q) 0 [(0, .ref (ad 0)), (1, vi x1)] [] M
  refine a_iconst dX4_manyNames_0 ?_
  refine a_istore_n (lv' := [(2, vi 0), (0, .ref (ad 0)), (1, vi x1)]) (Nat.le_of_ble_eq_true rfl) rfl dX4_manyNames_1 ?_
  refine a_iconst dX4_manyNames_2 ?_
  refine a_istore_n (lv' := [(3, vi 0), (2, vi 0), (0, .ref (ad 0)), (1, vi x1)]) (Nat.le_of_ble_eq_true rfl) rfl dX4_manyNames_3 ?_
  obtain ⟨n4, h⟩ := h
  refine AW.pick [2, 3, 1, 0] rfl ?_
  exact s_X4_manyNames_L4 Q n4 M x1 0 0 e1 (rgk 0 (by decide)) (rgk 0 (by decide)) h
set_option maxRecDepth 100000 in
theorem s_X4_manyClosed_L4 {l : Launch} {D : va_G} {ad : Nat → Nat} {cA : Nat → ClassId} (Q : Int → Mem → Prop) : ∀ (n : Nat) (M : Mem) (x1 : Int) (x2 : Int), rg x1 → rg x2 → w_X4_manyClosed_L4 Q n M x1 x2 → AW (xM l D ad cA) mX4_manyClosed (qI Q) 4 [(0, .ref (ad 0)), (1, vi x1), (2, vi x2)] [] M := by
  intro n
  induction n with
  | zero => intro M x1 x2 e1 e2 h; exact absurd h id
  | succ n ih =>
    intro M x1 x2 e1 e2 h
    refine a_iload_n 2 rfl dX4_manyClosed_4 ?_
    refine a_aload_n 0 rfl dX4_manyClosed_5 ?_
    refine gfX4_84 dX4_manyClosed_6 (fun g1 => ?_)
    refine a_icmp_ge 34 e2 g1 (by decide) dX4_manyClosed_9 (fun c2 => ?_) (fun c2 => ?_)
    · have h := h.1 c2
      refine a_iload_n 1 rfl dX4_manyClosed_34 ?_
      exact a_iret rfl dX4_manyClosed_35 e1 h
    · have h := h.2 c2
      refine a_iload_n 1 rfl dX4_manyClosed_12 ?_
      refine a_aload_n 0 rfl dX4_manyClosed_13 ?_
      refine a_iload_n 2 rfl dX4_manyClosed_14 ?_
      refine kX4_154 (Nat.le_of_ble_eq_true rfl) (Nat.le_of_ble_eq_true rfl) dX4_manyClosed_15 (s_X4_isClosed e2 h) (fun r4 M3 g5 h => ?_)
      refine a_if_eq 25 g5 (by decide) dX4_manyClosed_18 (fun c6 => ?_) (fun c6 => ?_)
      · have h := h.1 c6
        refine a_iconst dX4_manyClosed_25 ?_
        obtain ⟨g7, h⟩ := h
        refine a_iadd dX4_manyClosed_26 ?_
        refine a_istore_n (lv' := [(1, vi (x1 + 0)), (0, .ref (ad 0)), (2, vi x2)]) (Nat.le_of_ble_eq_true rfl) rfl dX4_manyClosed_27 ?_
        obtain ⟨g8, h⟩ := h
        refine a_iinc (lv' := [(2, vi (x2 + 1)), (1, vi (x1 + 0)), (0, .ref (ad 0))]) 2 rfl (Nat.le_of_ble_eq_true rfl) rfl dX4_manyClosed_28 ?_
        refine a_goto 4 (by decide) dX4_manyClosed_31 ?_
        refine AW.pick [2, 1, 0] rfl ?_
        exact ih M3 (x1 + 0) (x2 + 1) g7 g8 h
      · have h := h.2 c6
        refine a_iconst dX4_manyClosed_21 ?_
        refine a_goto 26 (by decide) dX4_manyClosed_22 ?_
        obtain ⟨g9, h⟩ := h
        refine a_iadd dX4_manyClosed_26 ?_
        refine a_istore_n (lv' := [(1, vi (x1 + 1)), (0, .ref (ad 0)), (2, vi x2)]) (Nat.le_of_ble_eq_true rfl) rfl dX4_manyClosed_27 ?_
        obtain ⟨g10, h⟩ := h
        refine a_iinc (lv' := [(2, vi (x2 + 1)), (1, vi (x1 + 1)), (0, .ref (ad 0))]) 2 rfl (Nat.le_of_ble_eq_true rfl) rfl dX4_manyClosed_28 ?_
        refine a_goto 4 (by decide) dX4_manyClosed_31 ?_
        refine AW.pick [2, 1, 0] rfl ?_
        exact ih M3 (x1 + 1) (x2 + 1) g9 g10 h
set_option maxRecDepth 100000 in
theorem s_X4_manyClosed {l : Launch} {D : va_G} {ad : Nat → Nat} {cA : Nat → ClassId} {M : Mem} {Q : Int → Mem → Prop} (h : w_X4_manyClosed M Q) : AM (xM l D ad cA) yX4_manyClosed mX4_manyClosed [.ref (ad 0)] M (qI Q) := by
  refine AM.ofAW (by decide +kernel) rfl (Nat.le_of_ble_eq_true rfl) ?_
  show AW (xM l D ad cA) mX4_manyClosed (qI Q) 0 [(0, .ref (ad 0))] [] M
  refine a_iconst dX4_manyClosed_0 ?_
  refine a_istore_n (lv' := [(1, vi 0), (0, .ref (ad 0))]) (Nat.le_of_ble_eq_true rfl) rfl dX4_manyClosed_1 ?_
  refine a_iconst dX4_manyClosed_2 ?_
  refine a_istore_n (lv' := [(2, vi 0), (1, vi 0), (0, .ref (ad 0))]) (Nat.le_of_ble_eq_true rfl) rfl dX4_manyClosed_3 ?_
  obtain ⟨n4, h⟩ := h
  refine AW.pick [2, 1, 0] rfl ?_
  exact s_X4_manyClosed_L4 Q n4 M 0 0 (rgk 0 (by decide)) (rgk 0 (by decide)) h
set_option maxRecDepth 100000 in
theorem s_X4_many {l : Launch} {D : va_G} {ad : Nat → Nat} {cA : Nat → ClassId} {M : Mem} {x1 : Int} {Q : Int → Mem → Prop} (e1 : rg x1) (h : w_X4_many M x1 Q) : AM (xM l D ad cA) yX4_many mX4_many [.ref (ad 0), vi x1] M (qI Q) := by
  refine AM.ofAW (by decide +kernel) rfl (Nat.le_of_ble_eq_true rfl) ?_
  show AW (xM l D ad cA) mX4_many (qI Q) 0 [(0, .ref (ad 0)), (1, vi x1)] [] M
  refine a_iload_n 1 rfl dX4_many_0 ?_
  have c1 : (x1 < 0 ∨ 4 < x1) ∨ x1 = 0 ∨ x1 = 1 ∨ x1 = 2 ∨ x1 = 3 ∨ x1 = 4 := by omega
  rcases c1 with c1 | c1 | c1 | c1 | c1 | c1
  · have h := h.1 c1
    refine a_tsOut 63 e1 (by decide) dX4_many_1 c1 ?_
    refine a_bipush (by decide) dX4_many_63 ?_
    exact a_iret rfl dX4_many_65 (rgk (-2) (by decide)) h
  · have h := h.2.1 c1
    refine a_tsIn (b := 0) (off := 35) 36 e1 (by decide) dX4_many_1 c1 (by decide) (by decide) rfl ?_
    refine a_aload_n 0 rfl dX4_many_36 ?_
    refine gfX4_76 dX4_many_37 (fun g2 => ?_)
    exact a_iret rfl dX4_many_40 g2 h
  · have h := h.2.2.1 c1
    refine a_tsIn (b := 1) (off := 40) 41 e1 (by decide) dX4_many_1 c1 (by decide) (by decide) rfl ?_
    refine a_aload_n 0 rfl dX4_many_41 ?_
    refine gfX4_84 dX4_many_42 (fun g3 => ?_)
    exact a_iret rfl dX4_many_45 g3 h
  · have h := h.2.2.2.1 c1
    refine a_tsIn (b := 2) (off := 45) 46 e1 (by decide) dX4_many_1 c1 (by decide) (by decide) rfl ?_
    refine a_aload_n 0 rfl dX4_many_46 ?_
    refine a_iconst dX4_many_47 ?_
    refine kX4_236 (Nat.le_of_ble_eq_true rfl) (Nat.le_of_ble_eq_true rfl) dX4_many_48 (s_X4_manyNames (rgk 0 (by decide)) h) (fun r5 M4 g6 h => ?_)
    exact a_iret rfl dX4_many_51 g6 h
  · have h := h.2.2.2.2.1 c1
    refine a_tsIn (b := 3) (off := 51) 52 e1 (by decide) dX4_many_1 c1 (by decide) (by decide) rfl ?_
    refine a_aload_n 0 rfl dX4_many_52 ?_
    refine a_iconst dX4_many_53 ?_
    refine kX4_236 (Nat.le_of_ble_eq_true rfl) (Nat.le_of_ble_eq_true rfl) dX4_many_54 (s_X4_manyNames (rgk 1 (by decide)) h) (fun r8 M7 g9 h => ?_)
    exact a_iret rfl dX4_many_57 g9 h
  · have h := h.2.2.2.2.2 c1
    refine a_tsIn (b := 4) (off := 57) 58 e1 (by decide) dX4_many_1 c1 (by decide) (by decide) rfl ?_
    refine a_aload_n 0 rfl dX4_many_58 ?_
    refine kX4_240 (Nat.le_of_ble_eq_true rfl) (Nat.le_of_ble_eq_true rfl) dX4_many_59 (s_X4_manyClosed h) (fun r11 M10 g12 h => ?_)
    exact a_iret rfl dX4_many_62 g12 h
