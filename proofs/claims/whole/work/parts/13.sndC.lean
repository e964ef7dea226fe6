set_option maxRecDepth 100000 in
theorem s_X1_has {l : Launch} {D : va_G} {ad : Nat → Nat} {cA : Nat → ClassId} {M : Mem} {x1 : Int} {Q : Int → Mem → Prop} (e1 : rg x1) (h : w_X1_has M x1 Q) : AM (xC l D ad cA) yX1_has mX1_has [.ref (ad 2), vi x1] M (qI Q) := by
  refine AM.ofAW (by decide +kernel) rfl (Nat.le_of_ble_eq_true rfl) ?_
  show AW (xC l D ad cA) mX1_has (qI Q) 0 [(0, .ref (ad 2)), (1, vi x1)] [] M
  refine a_iload_n 1 rfl dX1_has_0 ?_
  refine a_if_lt 16 e1 (by decide) dX1_has_1 (fun c1 => ?_) (fun c1 => ?_)
  · have h := h.1 c1
    refine a_iconst dX1_has_16 ?_
    exact a_zret rfl dX1_has_17 (Or.inl rfl) h
  · have h := h.2 c1
    refine a_iload_n 1 rfl dX1_has_4 ?_
    refine a_aload_n 0 rfl dX1_has_5 ?_
    refine gfX1_37 dX1_has_6 (fun g2 => ?_)
    refine a_icmp_ge 16 e1 g2 (by decide) dX1_has_9 (fun c3 => ?_) (fun c3 => ?_)
    · have h := h.1 c3
      refine a_iconst dX1_has_16 ?_
      exact a_zret rfl dX1_has_17 (Or.inl rfl) h
    · have h := h.2 c3
      refine a_iconst dX1_has_12 ?_
      refine a_goto 17 (by decide) dX1_has_13 ?_
      exact a_zret rfl dX1_has_17 (Or.inr rfl) h
set_option maxRecDepth 100000 in
theorem s_X1_definitionOf {l : Launch} {D : va_G} {ad : Nat → Nat} {cA : Nat → ClassId} {M : Mem} {x1 : Int} {Q : Int → Mem → Prop} (e1 : rg x1) (h : w_X1_definitionOf M x1 Q) : AM (xC l D ad cA) yX1_definitionOf mX1_definitionOf [.ref (ad 2), vi x1] M (qI Q) := by
  refine AM.ofAW (by decide +kernel) rfl (Nat.le_of_ble_eq_true rfl) ?_
  show AW (xC l D ad cA) mX1_definitionOf (qI Q) 0 [(0, .ref (ad 2)), (1, vi x1)] [] M
  refine a_aload_n 0 rfl dX1_definitionOf_0 ?_
  refine a_iload_n 1 rfl dX1_definitionOf_1 ?_
  refine kX1_45 (Nat.le_of_ble_eq_true rfl) (Nat.le_of_ble_eq_true rfl) dX1_definitionOf_2 (s_X1_has e1 h) (fun r2 M1 g3 h => ?_)
  refine a_if_eq 17 g3 (by decide) dX1_definitionOf_5 (fun c4 => ?_) (fun c4 => ?_)
  · have h := h.1 c4
    refine a_bipush (by decide) dX1_definitionOf_17 ?_
    exact a_iret rfl dX1_definitionOf_19 (rgk (-9) (by decide)) h
  · have h := h.2 c4
    refine a_aload_n 0 rfl dX1_definitionOf_8 ?_
    refine gfX1_15 dX1_definitionOf_9 ?_
    refine a_iload_n 1 rfl dX1_definitionOf_12 ?_
    obtain ⟨b5, h⟩ := h
    refine ldC_13 dX1_definitionOf_13 b5 (fun g6 => ?_)
    refine a_goto 19 (by decide) dX1_definitionOf_14 ?_
    exact a_iret rfl dX1_definitionOf_19 g6 h
set_option maxRecDepth 100000 in
theorem s_X1_isOpaque {l : Launch} {D : va_G} {ad : Nat → Nat} {cA : Nat → ClassId} {M : Mem} {x1 : Int} {Q : Int → Mem → Prop} (e1 : rg x1) (h : w_X1_isOpaque M x1 Q) : AM (xC l D ad cA) yX1_isOpaque mX1_isOpaque [.ref (ad 2), vi x1] M (qI Q) := by
  refine AM.ofAW (by decide +kernel) rfl (Nat.le_of_ble_eq_true rfl) ?_
  show AW (xC l D ad cA) mX1_isOpaque (qI Q) 0 [(0, .ref (ad 2)), (1, vi x1)] [] M
  refine a_aload_n 0 rfl dX1_isOpaque_0 ?_
  refine a_iload_n 1 rfl dX1_isOpaque_1 ?_
  refine kX1_45 (Nat.le_of_ble_eq_true rfl) (Nat.le_of_ble_eq_true rfl) dX1_isOpaque_2 (s_X1_has e1 h) (fun r2 M1 g3 h => ?_)
  refine a_if_eq 21 g3 (by decide) dX1_isOpaque_5 (fun c4 => ?_) (fun c4 => ?_)
  · have h := h.1 c4
    refine a_iconst dX1_isOpaque_21 ?_
    exact a_zret rfl dX1_isOpaque_22 (Or.inl rfl) h
  · have h := h.2 c4
    refine a_aload_n 0 rfl dX1_isOpaque_8 ?_
    refine gfX1_18 dX1_isOpaque_9 ?_
    refine a_iload_n 1 rfl dX1_isOpaque_12 ?_
    obtain ⟨b5, h⟩ := h
    refine ldC_14 dX1_isOpaque_13 b5 (fun g6 => ?_)
    refine a_if_eq 21 g6 (by decide) dX1_isOpaque_14 (fun c7 => ?_) (fun c7 => ?_)
    · have h := h.1 c7
      refine a_iconst dX1_isOpaque_21 ?_
      exact a_zret rfl dX1_isOpaque_22 (Or.inl rfl) h
    · have h := h.2 c7
      refine a_iconst dX1_isOpaque_17 ?_
      refine a_goto 22 (by decide) dX1_isOpaque_18 ?_
      exact a_zret rfl dX1_isOpaque_22 (Or.inr rfl) h
set_option maxRecDepth 100000 in
theorem s_X1_isFolded {l : Launch} {D : va_G} {ad : Nat → Nat} {cA : Nat → ClassId} {M : Mem} {x1 : Int} {Q : Int → Mem → Prop} (e1 : rg x1) (h : w_X1_isFolded M x1 Q) : AM (xC l D ad cA) yX1_isFolded mX1_isFolded [.ref (ad 2), vi x1] M (qI Q) := by
  refine AM.ofAW (by decide +kernel) rfl (Nat.le_of_ble_eq_true rfl) ?_
  show AW (xC l D ad cA) mX1_isFolded (qI Q) 0 [(0, .ref (ad 2)), (1, vi x1)] [] M
  refine a_aload_n 0 rfl dX1_isFolded_0 ?_
  refine a_iload_n 1 rfl dX1_isFolded_1 ?_
  refine kX1_48 (Nat.le_of_ble_eq_true rfl) (Nat.le_of_ble_eq_true rfl) dX1_isFolded_2 (s_X1_definitionOf e1 h) (fun r2 M1 g3 h => ?_)
  refine a_bipush (by decide) dX1_isFolded_5 ?_
  refine a_icmp_eq 22 g3 (rgk (-9) (by decide)) (by decide) dX1_isFolded_7 (fun c4 => ?_) (fun c4 => ?_)
  · have h := h.1 c4
    refine a_iconst dX1_isFolded_22 ?_
    exact a_zret rfl dX1_isFolded_23 (Or.inl rfl) h
  · have h := h.2 c4
    refine a_aload_n 0 rfl dX1_isFolded_10 ?_
    refine a_iload_n 1 rfl dX1_isFolded_11 ?_
    refine kX1_52 (Nat.le_of_ble_eq_true rfl) (Nat.le_of_ble_eq_true rfl) dX1_isFolded_12 (s_X1_isOpaque e1 h) (fun r6 M5 g7 h => ?_)
    refine a_if_ne 22 g7 (by decide) dX1_isFolded_15 (fun c8 => ?_) (fun c8 => ?_)
    · have h := h.1 c8
      refine a_iconst dX1_isFolded_22 ?_
      exact a_zret rfl dX1_isFolded_23 (Or.inl rfl) h
    · have h := h.2 c8
      refine a_iconst dX1_isFolded_18 ?_
      refine a_goto 23 (by decide) dX1_isFolded_19 ?_
      exact a_zret rfl dX1_isFolded_23 (Or.inr rfl) h
set_option maxRecDepth 100000 in
theorem s_X2_wasMade {l : Launch} {D : va_G} {ad : Nat → Nat} {cA : Nat → ClassId} {M : Mem} {x1 : Int} {Q : Int → Mem → Prop} (e1 : rg x1) (h : w_X2_wasMade M x1 Q) : AM (xC l D ad cA) yX2_wasMade mX2_wasMade [.ref (ad 1), vi x1] M (qI Q) := by
  refine AM.ofAW (by decide +kernel) rfl (Nat.le_of_ble_eq_true rfl) ?_
  show AW (xC l D ad cA) mX2_wasMade (qI Q) 0 [(0, .ref (ad 1)), (1, vi x1)] [] M
  refine a_iload_n 1 rfl dX2_wasMade_0 ?_
  refine a_if_lt 16 e1 (by decide) dX2_wasMade_1 (fun c1 => ?_) (fun c1 => ?_)
  · have h := h.1 c1
    refine a_iconst dX2_wasMade_16 ?_
    exact a_zret rfl dX2_wasMade_17 (Or.inl rfl) h
  · have h := h.2 c1
    refine a_iload_n 1 rfl dX2_wasMade_4 ?_
    refine a_aload_n 0 rfl dX2_wasMade_5 ?_
    refine gfX2_36 dX2_wasMade_6 (fun g2 => ?_)
    refine a_icmp_ge 16 e1 g2 (by decide) dX2_wasMade_9 (fun c3 => ?_) (fun c3 => ?_)
    · have h := h.1 c3
      refine a_iconst dX2_wasMade_16 ?_
      exact a_zret rfl dX2_wasMade_17 (Or.inl rfl) h
    · have h := h.2 c3
      refine a_iconst dX2_wasMade_12 ?_
      refine a_goto 17 (by decide) dX2_wasMade_13 ?_
      exact a_zret rfl dX2_wasMade_17 (Or.inr rfl) h
set_option maxRecDepth 100000 in
theorem s_X2_namesIn {l : Launch} {D : va_G} {ad : Nat → Nat} {cA : Nat → ClassId} {M : Mem} {x1 : Int} {Q : Int → Mem → Prop} (e1 : rg x1) (h : w_X2_namesIn M x1 Q) : AM (xC l D ad cA) yX2_namesIn mX2_namesIn [.ref (ad 1), vi x1] M (qI Q) := by
  refine AM.ofAW (by decide +kernel) rfl (Nat.le_of_ble_eq_true rfl) ?_
  show AW (xC l D ad cA) mX2_namesIn (qI Q) 0 [(0, .ref (ad 1)), (1, vi x1)] [] M
  refine a_aload_n 0 rfl dX2_namesIn_0 ?_
  refine a_iload_n 1 rfl dX2_namesIn_1 ?_
  refine kX2_50 (Nat.le_of_ble_eq_true rfl) (Nat.le_of_ble_eq_true rfl) dX2_namesIn_2 (s_X2_wasMade e1 h) (fun r2 M1 g3 h => ?_)
  refine a_if_eq 17 g3 (by decide) dX2_namesIn_5 (fun c4 => ?_) (fun c4 => ?_)
  · have h := h.1 c4
    refine a_iconst dX2_namesIn_17 ?_
    exact a_iret rfl dX2_namesIn_18 (rgk 0 (by decide)) h
  · have h := h.2 c4
    refine a_aload_n 0 rfl dX2_namesIn_8 ?_
    refine gfX2_27 dX2_namesIn_9 ?_
    refine a_iload_n 1 rfl dX2_namesIn_12 ?_
    obtain ⟨b5, h⟩ := h
    refine ldC_9 dX2_namesIn_13 b5 (fun g6 => ?_)
    refine a_goto 18 (by decide) dX2_namesIn_14 ?_
    exact a_iret rfl dX2_namesIn_18 g6 h
set_option maxRecDepth 100000 in
theorem s_X1_greatestHeightIn_L14 {l : Launch} {D : va_G} {ad : Nat → Nat} {cA : Nat → ClassId} (Q : Int → Mem → Prop) : ∀ (n : Nat) (M : Mem) (x2 : Int) (x3 : Int) (x4 : Int), rg x2 → rg x3 → rg x4 → w_X1_greatestHeightIn_L14 Q n M x2 x3 x4 → AW (xC l D ad cA) mX1_greatestHeightIn (qI Q) 14 [(0, .ref (ad 2)), (2, vi x2), (3, vi x3), (4, vi x4)] [] M := by
  intro n
  induction n with
  | zero => intro M x2 x3 x4 e2 e3 e4 h; exact absurd h id
  | succ n ih =>
    intro M x2 x3 x4 e2 e3 e4 h
    refine a_iload 3 rfl dX1_greatestHeightIn_14 ?_
    refine a_aload_n 0 rfl dX1_greatestHeightIn_16 ?_
    refine gfX1_37 dX1_greatestHeightIn_17 (fun g1 => ?_)
    refine a_icmp_ge 51 e4 g1 (by decide) dX1_greatestHeightIn_20 (fun c2 => ?_) (fun c2 => ?_)
    · have h := h.1 c2
      refine a_iload_n 2 rfl dX1_greatestHeightIn_51 ?_
      exact a_iret rfl dX1_greatestHeightIn_52 e3 h
    · have h := h.2 c2
      refine a_iload_n 1 rfl dX1_greatestHeightIn_23 ?_
      refine a_iload 3 rfl dX1_greatestHeightIn_24 ?_
      refine a_ishr dX1_greatestHeightIn_26 ?_
      refine a_iconst dX1_greatestHeightIn_27 ?_
      refine a_iand dX1_greatestHeightIn_28 ?_
      refine a_iconst dX1_greatestHeightIn_29 ?_
      refine a_icmp_ne 45 (rg_t _) (rgk 1 (by decide)) (by decide) dX1_greatestHeightIn_30 (fun c3 => ?_) (fun c3 => ?_)
      · have h := h.1 c3
        obtain ⟨g4, h⟩ := h
        refine a_iinc (lv' := [(4, vi (x4 + 1)), (0, .ref (ad 2)), (2, vi x2), (3, vi x3)]) 3 rfl (Nat.le_of_ble_eq_true rfl) rfl dX1_greatestHeightIn_45 ?_
        refine a_goto 14 (by decide) dX1_greatestHeightIn_48 ?_
        refine AW.pick [1, 2, 3, 0] rfl ?_
        exact ih M x2 x3 (x4 + 1) e2 e3 g4 h
      · have h := h.2 c3
        refine a_iload_n 2 rfl dX1_greatestHeightIn_33 ?_
        refine a_aload_n 0 rfl dX1_greatestHeightIn_34 ?_
        refine gfX1_22 dX1_greatestHeightIn_35 ?_
        refine a_iload 3 rfl dX1_greatestHeightIn_38 ?_
        obtain ⟨b5, h⟩ := h
        refine ldC_15 dX1_greatestHeightIn_40 b5 (fun g6 => ?_)
        refine kX1_91 (Nat.le_of_ble_eq_true rfl) (Nat.le_of_ble_eq_true rfl) e3 g6 dX1_greatestHeightIn_41 ?_
        refine a_istore_n (lv' := [(3, vi (imax x3 (M 15 x4))), (0, .ref (ad 2)), (2, vi x2), (4, vi x4)]) (Nat.le_of_ble_eq_true rfl) rfl dX1_greatestHeightIn_44 ?_
        obtain ⟨g7, h⟩ := h
        refine a_iinc (lv' := [(4, vi (x4 + 1)), (3, vi (imax x3 (M 15 x4))), (0, .ref (ad 2)), (2, vi x2)]) 3 rfl (Nat.le_of_ble_eq_true rfl) rfl dX1_greatestHeightIn_45 ?_
        refine a_goto 14 (by decide) dX1_greatestHeightIn_48 ?_
        refine AW.pick [2, 3, 1, 0] rfl ?_
        exact ih M x2 (imax x3 (M 15 x4)) (x4 + 1) e2 (rg_imax e3 g6) g7 h
set_option maxRecDepth 100000 in
theorem s_X1_greatestHeightIn {l : Launch} {D : va_G} {ad : Nat → Nat} {cA : Nat → ClassId} {M : Mem} {x1 : Int} {Q : Int → Mem → Prop} (e1 : rg x1) (h : w_X1_greatestHeightIn M x1 Q) : AM (xC l D ad cA) yX1_greatestHeightIn mX1_greatestHeightIn [.ref (ad 2), vi x1] M (qI Q) := by
  refine AM.ofAW (by decide +kernel) rfl (Nat.le_of_ble_eq_true rfl) ?_
  show AW (xC l D ad cA) mX1_greatestHeightIn (qI Q) 0 [(0, .ref (ad 2)), (1, vi x1)] [] M
  refine a_aload_n 0 rfl dX1_greatestHeightIn_0 ?_
  refine gfX1_33 dX1_greatestHeightIn_1 ?_
  refine a_iload_n 1 rfl dX1_greatestHeightIn_4 ?_
  refine kX1_59 (Nat.le_of_ble_eq_true rfl) (Nat.le_of_ble_eq_true rfl) dX1_greatestHeightIn_5 (s_X2_namesIn e1 h) (fun r2 M1 g3 h => ?_)
  refine a_istore_n (lv' := [(2, vi r2), (0, .ref (ad 2)), (1, vi x1)]) (Nat.le_of_ble_eq_true rfl) rfl dX1_greatestHeightIn_8 ?_
  refine a_iconst dX1_greatestHeightIn_9 ?_
  refine a_istore_n (lv' := [(3, vi 0), (2, vi r2), (0, .ref (ad 2)), (1, vi x1)]) (Nat.le_of_ble_eq_true rfl) rfl dX1_greatestHeightIn_10 ?_
  refine a_iconst dX1_greatestHeightIn_11 ?_
  refine a_istore (lv' := [(4, vi 0), (3, vi 0), (2, vi r2), (0, .ref (ad 2)), (1, vi x1)]) (Nat.le_of_ble_eq_true rfl) rfl dX1_greatestHeightIn_12 ?_
  obtain ⟨n14, h⟩ := h
  refine AW.pick [3, 2, 1, 0] rfl ?_
  exact s_X1_greatestHeightIn_L14 Q n14 M1 r2 0 0 g3 (rgk 0 (by decide)) (rgk 0 (by decide)) h
set_option maxRecDepth 100000 in
theorem s_X2_isHeld {l : Launch} {D : va_G} {ad : Nat → Nat} {cA : Nat → ClassId} {M : Mem} {x1 : Int} {Q : Int → Mem → Prop} (e1 : rg x1) (h : w_X2_isHeld M x1 Q) : AM (xC l D ad cA) yX2_isHeld mX2_isHeld [.ref (ad 1), vi x1] M (qI Q) := by
  refine AM.ofAW (by decide +kernel) rfl (Nat.le_of_ble_eq_true rfl) ?_
  show AW (xC l D ad cA) mX2_isHeld (qI Q) 0 [(0, .ref (ad 1)), (1, vi x1)] [] M
  refine a_iload_n 1 rfl dX2_isHeld_0 ?_
  refine a_if_lt 16 e1 (by decide) dX2_isHeld_1 (fun c1 => ?_) (fun c1 => ?_)
  · have h := h.1 c1
    refine a_iconst dX2_isHeld_16 ?_
    exact a_zret rfl dX2_isHeld_17 (Or.inl rfl) h
  · have h := h.2 c1
    refine a_iload_n 1 rfl dX2_isHeld_4 ?_
    refine a_aload_n 0 rfl dX2_isHeld_5 ?_
    refine gfX2_40 dX2_isHeld_6 (fun g2 => ?_)
    refine a_icmp_ge 16 e1 g2 (by decide) dX2_isHeld_9 (fun c3 => ?_) (fun c3 => ?_)
    · have h := h.1 c3
      refine a_iconst dX2_isHeld_16 ?_
      exact a_zret rfl dX2_isHeld_17 (Or.inl rfl) h
    · have h := h.2 c3
      refine a_iconst dX2_isHeld_12 ?_
      refine a_goto 17 (by decide) dX2_isHeld_13 ?_
      exact a_zret rfl dX2_isHeld_17 (Or.inr rfl) h
set_option maxRecDepth 100000 in
theorem s_X2_frontOf {l : Launch} {D : va_G} {ad : Nat → Nat} {cA : Nat → ClassId} {M : Mem} {x1 : Int} {Q : Int → Mem → Prop} (e1 : rg x1) (h : w_X2_frontOf M x1 Q) : AM (xC l D ad cA) yX2_frontOf mX2_frontOf [.ref (ad 1), vi x1] M (qI Q) := by
  refine AM.ofAW (by decide +kernel) rfl (Nat.le_of_ble_eq_true rfl) ?_
  show AW (xC l D ad cA) mX2_frontOf (qI Q) 0 [(0, .ref (ad 1)), (1, vi x1)] [] M
  refine a_aload_n 0 rfl dX2_frontOf_0 ?_
  refine a_iload_n 1 rfl dX2_frontOf_1 ?_
  refine kX2_47 (Nat.le_of_ble_eq_true rfl) (Nat.le_of_ble_eq_true rfl) dX2_frontOf_2 (s_X2_isHeld e1 h) (fun r2 M1 g3 h => ?_)
  refine a_if_eq 17 g3 (by decide) dX2_frontOf_5 (fun c4 => ?_) (fun c4 => ?_)
  · have h := h.1 c4
    refine a_bipush (by decide) dX2_frontOf_17 ?_
    exact a_iret rfl dX2_frontOf_19 (rgk (-9) (by decide)) h
  · have h := h.2 c4
    refine a_aload_n 0 rfl dX2_frontOf_8 ?_
    refine gfX2_9 dX2_frontOf_9 ?_
    refine a_iload_n 1 rfl dX2_frontOf_12 ?_
    obtain ⟨b5, h⟩ := h
    refine ldC_4 dX2_frontOf_13 b5 (fun g6 => ?_)
    refine a_goto 19 (by decide) dX2_frontOf_14 ?_
    exact a_iret rfl dX2_frontOf_19 g6 h
set_option maxRecDepth 100000 in
theorem s_X2_partOf {l : Launch} {D : va_G} {ad : Nat → Nat} {cA : Nat → ClassId} {M : Mem} {x1 : Int} {x2 : Int} {Q : Int → Mem → Prop} (e1 : rg x1) (e2 : rg x2) (h : w_X2_partOf M x1 x2 Q) : AM (xC l D ad cA) yX2_partOf mX2_partOf [.ref (ad 1), vi x1, vi x2] M (qI Q) := by
  refine AM.ofAW (by decide +kernel) rfl (Nat.le_of_ble_eq_true rfl) ?_
  show AW (xC l D ad cA) mX2_partOf (qI Q) 0 [(0, .ref (ad 1)), (1, vi x1), (2, vi x2)] [] M
  refine a_aload_n 0 rfl dX2_partOf_0 ?_
  refine a_iload_n 1 rfl dX2_partOf_1 ?_
  refine kX2_47 (Nat.le_of_ble_eq_true rfl) (Nat.le_of_ble_eq_true rfl) dX2_partOf_2 (s_X2_isHeld e1 h) (fun r2 M1 g3 h => ?_)
  refine a_if_ne 11 g3 (by decide) dX2_partOf_5 (fun c4 => ?_) (fun c4 => ?_)
  · have h := h.1 c4
    refine a_iload_n 2 rfl dX2_partOf_11 ?_
    refine a_if_ne 24 e2 (by decide) dX2_partOf_12 (fun c5 => ?_) (fun c5 => ?_)
    · have h := h.1 c5
      refine a_aload_n 0 rfl dX2_partOf_24 ?_
      refine gfX2_18 dX2_partOf_25 ?_
      refine a_iload_n 1 rfl dX2_partOf_28 ?_
      obtain ⟨b6, h⟩ := h
      refine ldC_6 dX2_partOf_29 b6 (fun g7 => ?_)
      exact a_iret rfl dX2_partOf_30 g7 h
    · have h := h.2 c5
      refine a_aload_n 0 rfl dX2_partOf_15 ?_
      refine gfX2_15 dX2_partOf_16 ?_
      refine a_iload_n 1 rfl dX2_partOf_19 ?_
      obtain ⟨b8, h⟩ := h
      refine ldC_5 dX2_partOf_20 b8 (fun g9 => ?_)
      refine a_goto 30 (by decide) dX2_partOf_21 ?_
      exact a_iret rfl dX2_partOf_30 g9 h
  · have h := h.2 c4
    refine a_bipush (by decide) dX2_partOf_8 ?_
    exact a_iret rfl dX2_partOf_10 (rgk (-9) (by decide)) h
set_option maxRecDepth 100000 in
theorem s_X1_frontOfWhole_L4 {l : Launch} {D : va_G} {ad : Nat → Nat} {cA : Nat → ClassId} (Q : Int → Mem → Prop) : ∀ (n : Nat) (M : Mem) (x2 : Int) (x3 : Int), rg x2 → rg x3 → w_X1_frontOfWhole_L4 Q n M x2 x3 → AW (xC l D ad cA) mX1_frontOfWhole (qI Q) 4 [(0, .ref (ad 2)), (2, vi x2), (3, vi x3)] [] M := by
  intro n
  induction n with
  | zero => intro M x2 x3 e2 e3 h; exact absurd h id
  | succ n ih =>
    intro M x2 x3 e2 e3 h
    refine a_iload_n 2 rfl dX1_frontOfWhole_4 ?_
    refine a_iconst dX1_frontOfWhole_5 ?_
    refine a_icmp_ge 70 e3 (rgk 4 (by decide)) (by decide) dX1_frontOfWhole_6 (fun c1 => ?_) (fun c1 => ?_)
    · have h := h.1 c1
      refine a_bipush (by decide) dX1_frontOfWhole_70 ?_
      exact a_iret rfl dX1_frontOfWhole_72 (rgk (-9) (by decide)) h
    · have h := h.2 c1
      refine a_aload_n 0 rfl dX1_frontOfWhole_9 ?_
      refine gfX1_33 dX1_frontOfWhole_10 ?_
      refine a_iload_n 1 rfl dX1_frontOfWhole_13 ?_
      refine kX1_96 (Nat.le_of_ble_eq_true rfl) (Nat.le_of_ble_eq_true rfl) dX1_frontOfWhole_14 (s_X2_frontOf e2 h) (fun r3 M2 g4 h => ?_)
      refine a_istore (lv' := [(4, vi r3), (0, .ref (ad 2)), (2, vi x2), (3, vi x3)]) (Nat.le_of_ble_eq_true rfl) rfl dX1_frontOfWhole_17 ?_
      refine a_aload_n 1 rfl dX1_frontOfWhole_19 ?_
      refine a_iload 0 rfl dX1_frontOfWhole_20 ?_
      refine kX1_45 (Nat.le_of_ble_eq_true rfl) (Nat.le_of_ble_eq_true rfl) dX1_frontOfWhole_22 (s_X1_has g4 h) (fun r6 M5 g7 h => ?_)
      refine a_if_ne 31 g7 (by decide) dX1_frontOfWhole_25 (fun c8 => ?_) (fun c8 => ?_)
      · have h := h.1 c8
        refine a_aload_n 1 rfl dX1_frontOfWhole_31 ?_
        refine gfX1_25 dX1_frontOfWhole_32 ?_
        refine a_iload 0 rfl dX1_frontOfWhole_35 ?_
        obtain ⟨b9, h⟩ := h
        refine ldC_16 dX1_frontOfWhole_37 b9 (fun g10 => ?_)
        refine a_istore (lv' := [(5, vi (M5 16 r3)), (4, vi r3), (0, .ref (ad 2)), (2, vi x2), (3, vi x3)]) (Nat.le_of_ble_eq_true rfl) rfl dX1_frontOfWhole_38 ?_
        refine a_iload 0 rfl dX1_frontOfWhole_40 ?_
        refine a_bipush (by decide) dX1_frontOfWhole_42 ?_
        refine a_icmp_ge 50 g10 (rgk 100 (by decide)) (by decide) dX1_frontOfWhole_44 (fun c11 => ?_) (fun c11 => ?_)
        · have h := h.1 c11
          refine a_aload_n 2 rfl dX1_frontOfWhole_50 ?_
          refine gfX1_33 dX1_frontOfWhole_51 ?_
          refine a_iload_n 3 rfl dX1_frontOfWhole_54 ?_
          refine a_iload 0 rfl dX1_frontOfWhole_55 ?_
          refine a_bipush (by decide) dX1_frontOfWhole_57 ?_
          obtain ⟨g12, h⟩ := h
          refine a_isub dX1_frontOfWhole_59 ?_
          refine kX1_99 (Nat.le_of_ble_eq_true rfl) (Nat.le_of_ble_eq_true rfl) dX1_frontOfWhole_60 (s_X2_partOf e2 g12 h) (fun r14 M13 g15 h => ?_)
          refine a_istore_n (lv' := [(2, vi r14), (5, vi (M5 16 r3)), (4, vi r3), (0, .ref (ad 2)), (3, vi x3)]) (Nat.le_of_ble_eq_true rfl) rfl dX1_frontOfWhole_63 ?_
          obtain ⟨g16, h⟩ := h
          refine a_iinc (lv' := [(3, vi (x3 + 1)), (2, vi r14), (5, vi (M5 16 r3)), (4, vi r3), (0, .ref (ad 2))]) 4 rfl (Nat.le_of_ble_eq_true rfl) rfl dX1_frontOfWhole_64 ?_
          refine a_goto 4 (by decide) dX1_frontOfWhole_67 ?_
          refine AW.pick [4, 1, 0] rfl ?_
          exact ih M13 r14 (x3 + 1) g15 g16 h
        · have h := h.2 c11
          refine a_iload 0 rfl dX1_frontOfWhole_47 ?_
          exact a_iret rfl dX1_frontOfWhole_49 g10 h
      · have h := h.2 c8
        refine a_iload 0 rfl dX1_frontOfWhole_28 ?_
        exact a_iret rfl dX1_frontOfWhole_30 g4 h
set_option maxRecDepth 100000 in
theorem s_X1_frontOfWhole {l : Launch} {D : va_G} {ad : Nat → Nat} {cA : Nat → ClassId} {M : Mem} {x1 : Int} {Q : Int → Mem → Prop} (e1 : rg x1) (h : w_X1_frontOfWhole M x1 Q) : AM (xC l D ad cA) yX1_frontOfWhole mX1_frontOfWhole [.ref (ad 2), vi x1] M (qI Q) := by
  refine AM.ofAW (by decide +kernel) rfl (Nat.le_of_ble_eq_true rfl) ?_
  show AW (xC l D ad cA) mX1_frontOfWhole (qI Q) 0 [(0, .ref (ad 2)), (1, vi x1)] [] M
  refine a_iload_n 1 rfl dX1_frontOfWhole_0 ?_
  refine a_istore_n (lv' := [(2, vi x1), (0, .ref (ad 2)), (1, vi x1)]) (Nat.le_of_ble_eq_true rfl) rfl dX1_frontOfWhole_1 ?_
  refine a_iconst dX1_frontOfWhole_2 ?_
  refine a_istore_n (lv' := [(3, vi 0), (2, vi x1), (0, .ref (ad 2)), (1, vi x1)]) (Nat.le_of_ble_eq_true rfl) rfl dX1_frontOfWhole_3 ?_
  obtain ⟨n4, h⟩ := h
  refine AW.pick [2, 1, 0] rfl ?_
  exact s_X1_frontOfWhole_L4 Q n4 M x1 0 e1 (rgk 0 (by decide)) h
set_option maxRecDepth 100000 in
theorem s_X1_product {l : Launch} {D : va_G} {ad : Nat → Nat} {cA : Nat → ClassId} {M : Mem} {x0 : Int} {x2 : Int} {Q : Int → Mem → Prop} (e0 : rl x0) (e2 : rl x2) (h : w_X1_product M x0 x2 Q) : AM (xC l D ad cA) yX1_product mX1_product [vl x0, vl x2] M (qL Q) := by
  refine AM.ofAW (by decide +kernel) rfl (Nat.le_of_ble_eq_true rfl) ?_
  show AW (xC l D ad cA) mX1_product (qL Q) 0 [(0, vl x0), (2, vl x2)] [] M
  refine a_lload_n 0 rfl dX1_product_0 ?_
  refine a_lconst (v := 0) rfl dX1_product_1 ?_
  refine a_lcmp e0 (rlk 0 (by decide)) dX1_product_2 ?_
  refine a_if_eq 12 (rg_lcm _ _) (by decide) dX1_product_3 (fun c1 => ?_) (fun c1 => ?_)
  · have h := h.1 c1
    refine a_lconst (v := 0) rfl dX1_product_12 ?_
    exact a_lret rfl dX1_product_13 (rlk 0 (by decide)) h
  · have h := h.2 c1
    refine a_lload_n 1 rfl dX1_product_6 ?_
    refine a_lconst (v := 0) rfl dX1_product_7 ?_
    refine a_lcmp e2 (rlk 0 (by decide)) dX1_product_8 ?_
    refine a_if_ne 14 (rg_lcm _ _) (by decide) dX1_product_9 (fun c2 => ?_) (fun c2 => ?_)
    · have h := h.1 c2
      refine a_lload_n 0 rfl dX1_product_14 ?_
      refine a_ldc2 (n := 1000000000000000) (v := 1000000000000000) (gtb_in (by decide +kernel) rfl) rfl dX1_product_15 ?_
      refine a_lload_n 1 rfl dX1_product_18 ?_
      obtain ⟨g4, g3, h⟩ := h
      refine a_ldiv (rlk 1000000000000000 (by decide)) e2 g4 dX1_product_19 ?_
      refine a_lcmp e0 g3 dX1_product_20 ?_
      refine a_if_le 30 (rg_lcm _ _) (by decide) dX1_product_21 (fun c5 => ?_) (fun c5 => ?_)
      · have h := h.1 c5
        refine a_lload_n 0 rfl dX1_product_30 ?_
        refine a_lload_n 1 rfl dX1_product_31 ?_
        obtain ⟨g6, h⟩ := h
        refine a_lmul dX1_product_32 ?_
        exact a_lret rfl dX1_product_33 g6 h
      · have h := h.2 c5
        refine a_ldc2 (n := 1000000000000000) (v := 1000000000000000) (gtb_in (by decide +kernel) rfl) rfl dX1_product_24 ?_
        refine a_goto 33 (by decide) dX1_product_27 ?_
        exact a_lret rfl dX1_product_33 (rlk 1000000000000000 (by decide)) h
    · have h := h.2 c2
      refine a_lconst (v := 0) rfl dX1_product_12 ?_
      exact a_lret rfl dX1_product_13 (rlk 0 (by decide)) h
set_option maxRecDepth 100000 in
theorem s_X1_sum {l : Launch} {D : va_G} {ad : Nat → Nat} {cA : Nat → ClassId} {M : Mem} {x0 : Int} {x2 : Int} {Q : Int → Mem → Prop} (e0 : rl x0) (e2 : rl x2) (h : w_X1_sum M x0 x2 Q) : AM (xC l D ad cA) yX1_sum mX1_sum [vl x0, vl x2] M (qL Q) := by
  refine AM.ofAW (by decide +kernel) rfl (Nat.le_of_ble_eq_true rfl) ?_
  show AW (xC l D ad cA) mX1_sum (qL Q) 0 [(0, vl x0), (2, vl x2)] [] M
  refine a_ldc2 (n := 1000000000000000) (v := 1000000000000000) (gtb_in (by decide +kernel) rfl) rfl dX1_sum_0 ?_
  refine a_lload_n 0 rfl dX1_sum_3 ?_
  refine a_lload_n 1 rfl dX1_sum_4 ?_
  obtain ⟨g1, h⟩ := h
  refine a_ladd dX1_sum_5 ?_
  refine kX1_110 (Nat.le_of_ble_eq_true rfl) (Nat.le_of_ble_eq_true rfl) (rlk 1000000000000000 (by decide)) g1 dX1_sum_6 ?_
  exact a_lret rfl dX1_sum_9 (rl_imin (rlk 1000000000000000 (by decide)) g1) h
set_option maxRecDepth 100000 in
theorem s_X1_countInWhole_L73 {l : Launch} {D : va_G} {ad : Nat → Nat} {cA : Nat → ClassId} {fu : Nat} (F : Mem → Int → Int → Int → (Int → Mem → Prop) → Prop) (hF : ∀ (M : Mem) (x1 : Int) (x2 : Int) (x3 : Int) (Q : Int → Mem → Prop), rg x1 → rg x2 → rg x3 → F M x1 x2 x3 Q → AM (xC l D ad cA) yX1_countInWhole (mX1_countInWhole fu) [.ref (ad 2), vi x1, vi x2, vi x3] M (qL Q)) (Q : Int → Mem → Prop) : ∀ (n : Nat) (M : Mem) (x1 : Int) (x2 : Int) (x3 : Int) (x4 : Int) (x5 : Int) (x7 : Int), rg x1 → rg x2 → rg x3 → rg x4 → rl x5 → rg x7 → w_X1_countInWhole_L73 F Q n M x1 x2 x3 x4 x5 x7 → AW (xC l D ad cA) (mX1_countInWhole (fu + 1)) (qL Q) 73 [(0, .ref (ad 2)), (1, vi x1), (2, vi x2), (3, vi x3), (4, vi x4), (5, vl x5), (7, vi x7)] [] M := by
  intro n
  induction n with
  | zero => intro M x1 x2 x3 x4 x5 x7 e1 e2 e3 e4 e5 e7 h; exact absurd h id
  | succ n ih =>
    intro M x1 x2 x3 x4 x5 x7 e1 e2 e3 e4 e5 e7 h
    refine a_iload 6 rfl dX1_countInWhole_73 ?_
    refine a_aload_n 0 rfl dX1_countInWhole_75 ?_
    refine gfX1_9 dX1_countInWhole_76 ?_
    refine a_iload 4 rfl dX1_countInWhole_79 ?_
    obtain ⟨b1, h⟩ := h
    refine ldC_12 dX1_countInWhole_81 b1 (fun g2 => ?_)
    refine a_icmp_ge 139 e7 g2 (by decide) dX1_countInWhole_82 (fun c3 => ?_) (fun c3 => ?_)
    · have h := h.1 c3
      refine a_lload 5 rfl dX1_countInWhole_139 ?_
      exact a_lret rfl dX1_countInWhole_141 e5 h
    · have h := h.2 c3
      refine a_iload 6 rfl dX1_countInWhole_85 ?_
      refine a_iconst dX1_countInWhole_87 ?_
      refine a_icmp_ge 139 e7 (rgk 2 (by decide)) (by decide) dX1_countInWhole_88 (fun c4 => ?_) (fun c4 => ?_)
      · have h := h.1 c4
        refine a_lload 5 rfl dX1_countInWhole_139 ?_
        exact a_lret rfl dX1_countInWhole_141 e5 h
      · have h := h.2 c4
        refine a_aload_n 0 rfl dX1_countInWhole_91 ?_
        refine a_aload_n 0 rfl dX1_countInWhole_92 ?_
        refine gfX1_33 dX1_countInWhole_93 ?_
        refine a_iload_n 1 rfl dX1_countInWhole_96 ?_
        refine a_iload 6 rfl dX1_countInWhole_97 ?_
        refine kX1_99 (by omega) (Nat.le_of_ble_eq_true rfl) dX1_countInWhole_99 (s_X2_partOf e1 e7 h) (fun r6 M5 g7 h => ?_)
        refine a_iload_n 2 rfl dX1_countInWhole_102 ?_
        refine a_iload_n 3 rfl dX1_countInWhole_103 ?_
        refine a_iconst dX1_countInWhole_104 ?_
        obtain ⟨g8, h⟩ := h
        refine a_iadd dX1_countInWhole_105 ?_
        refine kX1_83 (by omega) (Nat.le_of_ble_eq_true rfl) dX1_countInWhole_106 (hF _ _ _ _ _ g7 e2 g8 h) (fun r10 M9 g11 h => ?_)
        refine a_lstore (lv' := [(8, vl r10), (0, .ref (ad 2)), (1, vi x1), (2, vi x2), (3, vi x3), (4, vi x4), (5, vl x5), (7, vi x7)]) (Nat.le_of_ble_eq_true rfl) rfl dX1_countInWhole_109 ?_
        refine a_lload 6 rfl dX1_countInWhole_111 ?_
        refine a_aload_n 1 rfl dX1_countInWhole_113 ?_
        refine gfX1_30 dX1_countInWhole_114 ?_
        refine a_iload 7 rfl dX1_countInWhole_117 ?_
        obtain ⟨b12, h⟩ := h
        refine ldC_rows dX1_countInWhole_119 b12 ?_
        refine a_iload 5 rfl dX1_countInWhole_120 ?_
        obtain ⟨b13, h⟩ := h
        refine ldC_row b12 dX1_countInWhole_122 b13 (fun g14 => ?_)
        refine a_lload 0 rfl dX1_countInWhole_123 ?_
        refine kX1_102 (by omega) (Nat.le_of_ble_eq_true rfl) dX1_countInWhole_125 (s_X1_product g14 g11 h) (fun r16 M15 g17 h => ?_)
        refine kX1_87 (by omega) (Nat.le_of_ble_eq_true rfl) dX1_countInWhole_128 (s_X1_sum e5 g17 h) (fun r19 M18 g20 h => ?_)
        refine a_lstore (lv' := [(5, vl r19), (8, vl r10), (0, .ref (ad 2)), (1, vi x1), (2, vi x2), (3, vi x3), (4, vi x4), (7, vi x7)]) (Nat.le_of_ble_eq_true rfl) rfl dX1_countInWhole_131 ?_
        obtain ⟨g21, h⟩ := h
        refine a_iinc (lv' := [(7, vi (x7 + 1)), (5, vl r19), (8, vl r10), (0, .ref (ad 2)), (1, vi x1), (2, vi x2), (3, vi x3), (4, vi x4)]) 7 rfl (Nat.le_of_ble_eq_true rfl) rfl dX1_countInWhole_133 ?_
        refine a_goto 73 (by decide) dX1_countInWhole_136 ?_
        refine AW.pick [3, 4, 5, 6, 7, 1, 0] rfl ?_
        exact ih M18 x1 x2 x3 x4 r19 (x7 + 1) e1 e2 e3 e4 g20 g21 h
set_option maxRecDepth 100000 in
theorem s_X1_countInWhole {l : Launch} {D : va_G} {ad : Nat → Nat} {cA : Nat → ClassId} : ∀ (fu : Nat) (M : Mem) (x1 : Int) (x2 : Int) (x3 : Int) (Q : Int → Mem → Prop), rg x1 → rg x2 → rg x3 → w_X1_countInWhole fu M x1 x2 x3 Q → AM (xC l D ad cA) yX1_countInWhole (mX1_countInWhole fu) [.ref (ad 2), vi x1, vi x2, vi x3] M (qL Q) := by
  intro fu
  induction fu with
  | zero => intro M x1 x2 x3 Q e1 e2 e3 h; exact absurd h id
  | succ fu hF =>
    intro M x1 x2 x3 Q e1 e2 e3 h
    refine AM.ofAW (by decide +kernel) rfl (Nat.le_of_ble_eq_true rfl) ?_
    show AW (xC l D ad cA) (mX1_countInWhole (fu + 1)) (qL Q) 0 [(0, .ref (ad 2)), (1, vi x1), (2, vi x2), (3, vi x3)] [] M
    refine a_iload_n 2 rfl dX1_countInWhole_0 ?_
    refine a_if_lt 14 e2 (by decide) dX1_countInWhole_1 (fun c1 => ?_) (fun c1 => ?_)
    · have h := h.1 c1
      refine a_lconst (v := 0) rfl dX1_countInWhole_14 ?_
      exact a_lret rfl dX1_countInWhole_15 (rlk 0 (by decide)) h
    · have h := h.2 c1
      refine a_iload_n 2 rfl dX1_countInWhole_4 ?_
      refine a_iconst dX1_countInWhole_5 ?_
      refine a_icmp_ge 14 e2 (rgk 4 (by decide)) (by decide) dX1_countInWhole_6 (fun c2 => ?_) (fun c2 => ?_)
      · have h := h.1 c2
        refine a_lconst (v := 0) rfl dX1_countInWhole_14 ?_
        exact a_lret rfl dX1_countInWhole_15 (rlk 0 (by decide)) h
      · have h := h.2 c2
        refine a_iload_n 3 rfl dX1_countInWhole_9 ?_
        refine a_iconst dX1_countInWhole_10 ?_
        refine a_icmp_le 16 e3 (rgk 4 (by decide)) (by decide) dX1_countInWhole_11 (fun c3 => ?_) (fun c3 => ?_)
        · have h := h.1 c3
          refine a_aload_n 0 rfl dX1_countInWhole_16 ?_
          refine gfX1_33 dX1_countInWhole_17 ?_
          refine a_iload_n 1 rfl dX1_countInWhole_20 ?_
          refine kX1_96 (by omega) (Nat.le_of_ble_eq_true rfl) dX1_countInWhole_21 (s_X2_frontOf e1 h) (fun r5 M4 g6 h => ?_)
          refine a_istore (lv' := [(4, vi r5), (0, .ref (ad 2)), (1, vi x1), (2, vi x2), (3, vi x3)]) (Nat.le_of_ble_eq_true rfl) rfl dX1_countInWhole_24 ?_
          refine a_aload_n 1 rfl dX1_countInWhole_26 ?_
          refine a_iload 0 rfl dX1_countInWhole_27 ?_
          refine kX1_45 (by omega) (Nat.le_of_ble_eq_true rfl) dX1_countInWhole_29 (s_X1_has g6 h) (fun r8 M7 g9 h => ?_)
          refine a_if_ne 50 g9 (by decide) dX1_countInWhole_32 (fun c10 => ?_) (fun c10 => ?_)
          · have h := h.1 c10
            refine a_iload_n 3 rfl dX1_countInWhole_50 ?_
            refine a_iconst dX1_countInWhole_51 ?_
            refine a_icmp_ge 59 e2 (rgk 2 (by decide)) (by decide) dX1_countInWhole_52 (fun c11 => ?_) (fun c11 => ?_)
            · have h := h.1 c11
              refine a_aload_n 1 rfl dX1_countInWhole_59 ?_
              refine gfX1_30 dX1_countInWhole_60 ?_
              refine a_iload_n 3 rfl dX1_countInWhole_63 ?_
              obtain ⟨b12, h⟩ := h
              refine ldC_rows dX1_countInWhole_64 b12 ?_
              refine a_iload 0 rfl dX1_countInWhole_65 ?_
              obtain ⟨b13, h⟩ := h
              refine ldC_row b12 dX1_countInWhole_67 b13 (fun g14 => ?_)
              refine a_lstore (lv' := [(5, vl (M7 (18 + Int.toNat x2) r5)), (4, vi r5), (0, .ref (ad 2)), (1, vi x1), (2, vi x2), (3, vi x3)]) (Nat.le_of_ble_eq_true rfl) rfl dX1_countInWhole_68 ?_
              refine a_iconst dX1_countInWhole_70 ?_
              refine a_istore (lv' := [(7, vi 0), (5, vl (M7 (18 + Int.toNat x2) r5)), (4, vi r5), (0, .ref (ad 2)), (1, vi x1), (2, vi x2), (3, vi x3)]) (Nat.le_of_ble_eq_true rfl) rfl dX1_countInWhole_71 ?_
              obtain ⟨n73, h⟩ := h
              refine AW.pick [3, 4, 5, 6, 2, 1, 0] rfl ?_
              exact s_X1_countInWhole_L73 (w_X1_countInWhole fu) hF Q n73 M7 x1 x2 x3 r5 (M7 (18 + Int.toNat x2) r5) 0 e1 e2 e3 g6 g14 (rgk 0 (by decide)) h
            · have h := h.2 c11
              refine a_lconst (v := 0) rfl dX1_countInWhole_55 ?_
              refine a_goto 68 (by decide) dX1_countInWhole_56 ?_
              refine a_lstore (lv' := [(5, vl 0), (4, vi r5), (0, .ref (ad 2)), (1, vi x1), (2, vi x2), (3, vi x3)]) (Nat.le_of_ble_eq_true rfl) rfl dX1_countInWhole_68 ?_
              refine a_iconst dX1_countInWhole_70 ?_
              refine a_istore (lv' := [(7, vi 0), (5, vl 0), (4, vi r5), (0, .ref (ad 2)), (1, vi x1), (2, vi x2), (3, vi x3)]) (Nat.le_of_ble_eq_true rfl) rfl dX1_countInWhole_71 ?_
              obtain ⟨n73, h⟩ := h
              refine AW.pick [3, 4, 5, 6, 2, 1, 0] rfl ?_
              exact s_X1_countInWhole_L73 (w_X1_countInWhole fu) hF Q n73 M7 x1 x2 x3 r5 0 0 e1 e2 e3 g6 (rlk 0 (by decide)) (rgk 0 (by decide)) h
          · have h := h.2 c10
            refine a_iload 0 rfl dX1_countInWhole_35 ?_
            refine a_bipush (by decide) dX1_countInWhole_37 ?_
            refine a_iload_n 3 rfl dX1_countInWhole_39 ?_
            obtain ⟨g15, h⟩ := h
            refine a_iadd dX1_countInWhole_40 ?_
            refine a_icmp_ne 48 g6 g15 (by decide) dX1_countInWhole_41 (fun c16 => ?_) (fun c16 => ?_)
            · have h := h.1 c16
              refine a_lconst (v := 0) rfl dX1_countInWhole_48 ?_
              exact a_lret rfl dX1_countInWhole_49 (rlk 0 (by decide)) h
            · have h := h.2 c16
              refine a_lconst (v := 1) rfl dX1_countInWhole_44 ?_
              refine a_goto 49 (by decide) dX1_countInWhole_45 ?_
              exact a_lret rfl dX1_countInWhole_49 (rlk 1 (by decide)) h
        · have h := h.2 c3
          refine a_lconst (v := 0) rfl dX1_countInWhole_14 ?_
          exact a_lret rfl dX1_countInWhole_15 (rlk 0 (by decide)) h
set_option maxRecDepth 100000 in
theorem s_X1_settleFolded_L42 {l : Launch} {D : va_G} {ad : Nat → Nat} {cA : Nat → ClassId} (Q : Mem → Prop) : ∀ (n : Nat) (M : Mem) (x1 : Int) (x2 : Int) (x3 : Int), rg x1 → rg x2 → rg x3 → w_X1_settleFolded_L42 Q n M x1 x2 x3 → AW (xC l D ad cA) mX1_settleFolded (qV Q) 42 [(0, .ref (ad 2)), (1, vi x1), (2, vi x2), (3, vi x3)] [] M := by
  intro n
  induction n with
  | zero => intro M x1 x2 x3 e1 e2 e3 h; exact absurd h id
  | succ n ih =>
    intro M x1 x2 x3 e1 e2 e3 h
    refine a_iload_n 3 rfl dX1_settleFolded_42 ?_
    refine a_iconst dX1_settleFolded_43 ?_
    refine a_icmp_ge 68 e3 (rgk 4 (by decide)) (by decide) dX1_settleFolded_44 (fun c1 => ?_) (fun c1 => ?_)
    · have h := h.1 c1
      refine a_aload_n 0 rfl dX1_settleFolded_68 ?_
      refine gfX1_30 dX1_settleFolded_69 ?_
      refine a_iconst dX1_settleFolded_72 ?_
      obtain ⟨b2, h⟩ := h
      refine ldC_rows dX1_settleFolded_73 b2 ?_
      refine a_iload_n 1 rfl dX1_settleFolded_74 ?_
      refine a_lconst (v := 1) rfl dX1_settleFolded_75 ?_
      refine a_aload_n 0 rfl dX1_settleFolded_76 ?_
      refine gfX1_30 dX1_settleFolded_77 ?_
      refine a_iconst dX1_settleFolded_80 ?_
      obtain ⟨b3, h⟩ := h
      refine ldC_rows dX1_settleFolded_81 b3 ?_
      refine a_iload_n 1 rfl dX1_settleFolded_82 ?_
      obtain ⟨b4, h⟩ := h
      refine ldC_row b3 dX1_settleFolded_83 b4 (fun g5 => ?_)
      refine kX1_87 (Nat.le_of_ble_eq_true rfl) (Nat.le_of_ble_eq_true rfl) dX1_settleFolded_84 (s_X1_sum (rlk 1 (by decide)) g5 h) (fun r7 M6 g8 h => ?_)
      obtain ⟨b9, h⟩ := h
      refine stC_row b2 dX1_settleFolded_87 b9 g8 ?_
      exact a_vret rfl dX1_settleFolded_88 h
    · have h := h.2 c1
      refine a_aload_n 0 rfl dX1_settleFolded_47 ?_
      refine gfX1_30 dX1_settleFolded_48 ?_
      refine a_iload_n 3 rfl dX1_settleFolded_51 ?_
      obtain ⟨b10, h⟩ := h
      refine ldC_rows dX1_settleFolded_52 b10 ?_
      refine a_iload_n 1 rfl dX1_settleFolded_53 ?_
      refine a_aload_n 0 rfl dX1_settleFolded_54 ?_
      refine a_iload_n 2 rfl dX1_settleFolded_55 ?_
      refine a_iload_n 3 rfl dX1_settleFolded_56 ?_
      refine a_iconst dX1_settleFolded_57 ?_
      refine kX1_83 (Nat.le_of_ble_eq_true rfl) (Nat.le_of_ble_eq_true rfl) dX1_settleFolded_58 (s_X1_countInWhole 6 _ _ _ _ _ e2 e3 (rgk 1 (by decide)) h) (fun r12 M11 g13 h => ?_)
      obtain ⟨b14, h⟩ := h
      refine stC_row b10 dX1_settleFolded_61 b14 g13 ?_
      obtain ⟨g15, h⟩ := h
      refine a_iinc (lv' := [(3, vi (x3 + 1)), (0, .ref (ad 2)), (1, vi x1), (2, vi x2)]) 3 rfl (Nat.le_of_ble_eq_true rfl) rfl dX1_settleFolded_62 ?_
      refine a_goto 42 (by decide) dX1_settleFolded_65 ?_
      refine AW.pick [1, 2, 3, 0] rfl ?_
      exact ih (up M11 (18 + Int.toNat x3) x1 r12) x1 x2 (x3 + 1) e1 e2 g15 h
set_option maxRecDepth 100000 in
theorem s_X1_settleFolded {l : Launch} {D : va_G} {ad : Nat → Nat} {cA : Nat → ClassId} {M : Mem} {x1 : Int} {Q : Mem → Prop} (e1 : rg x1) (h : w_X1_settleFolded M x1 Q) : AM (xC l D ad cA) yX1_settleFolded mX1_settleFolded [.ref (ad 2), vi x1] M (qV Q) := by
  refine AM.ofAW (by decide +kernel) rfl (Nat.le_of_ble_eq_true rfl) ?_
  show AW (xC l D ad cA) mX1_settleFolded (qV Q) 0 [(0, .ref (ad 2)), (1, vi x1)] [] M
  refine a_aload_n 0 rfl dX1_settleFolded_0 ?_
  refine a_iload_n 1 rfl dX1_settleFolded_1 ?_
  refine kX1_45 (Nat.le_of_ble_eq_true rfl) (Nat.le_of_ble_eq_true rfl) dX1_settleFolded_2 (s_X1_has e1 h) (fun r2 M1 g3 h => ?_)
  refine a_if_ne 9 g3 (by decide) dX1_settleFolded_5 (fun c4 => ?_) (fun c4 => ?_)
  · have h := h.1 c4
    refine a_aload_n 0 rfl dX1_settleFolded_9 ?_
    refine gfX1_15 dX1_settleFolded_10 ?_
    refine a_iload_n 1 rfl dX1_settleFolded_13 ?_
    obtain ⟨b5, h⟩ := h
    refine ldC_13 dX1_settleFolded_14 b5 (fun g6 => ?_)
    refine a_istore_n (lv' := [(2, vi (M1 13 x1)), (0, .ref (ad 2)), (1, vi x1)]) (Nat.le_of_ble_eq_true rfl) rfl dX1_settleFolded_15 ?_
    refine a_aload_n 1 rfl dX1_settleFolded_16 ?_
    refine gfX1_22 dX1_settleFolded_17 ?_
    refine a_iload_n 2 rfl dX1_settleFolded_20 ?_
    refine a_iconst dX1_settleFolded_21 ?_
    refine a_aload_n 1 rfl dX1_settleFolded_22 ?_
    refine a_iload_n 0 rfl dX1_settleFolded_23 ?_
    refine kX1_77 (Nat.le_of_ble_eq_true rfl) (Nat.le_of_ble_eq_true rfl) dX1_settleFolded_24 (s_X1_greatestHeightIn g6 h) (fun r8 M7 g9 h => ?_)
    obtain ⟨g10, h⟩ := h
    refine a_iadd dX1_settleFolded_27 ?_
    obtain ⟨b11, h⟩ := h
    refine stC_15 dX1_settleFolded_28 b11 g10 ?_
    refine a_aload_n 1 rfl dX1_settleFolded_29 ?_
    refine gfX1_25 dX1_settleFolded_30 ?_
    refine a_iload_n 2 rfl dX1_settleFolded_33 ?_
    refine a_aload_n 1 rfl dX1_settleFolded_34 ?_
    refine a_iload_n 0 rfl dX1_settleFolded_35 ?_
    refine kX1_80 (Nat.le_of_ble_eq_true rfl) (Nat.le_of_ble_eq_true rfl) dX1_settleFolded_36 (s_X1_frontOfWhole g6 h) (fun r13 M12 g14 h => ?_)
    obtain ⟨b15, h⟩ := h
    refine stC_16 dX1_settleFolded_39 b15 g14 ?_
    refine a_iconst dX1_settleFolded_40 ?_
    refine a_istore_n (lv' := [(3, vi 0), (2, vi (M1 13 x1)), (0, .ref (ad 2)), (1, vi x1)]) (Nat.le_of_ble_eq_true rfl) rfl dX1_settleFolded_41 ?_
    obtain ⟨n42, h⟩ := h
    refine AW.pick [2, 3, 1, 0] rfl ?_
    exact s_X1_settleFolded_L42 Q n42 (up M12 16 x1 r13) x1 (M1 13 x1) 0 e1 g6 (rgk 0 (by decide)) h
  · have h := h.2 c4
    exact a_vret rfl dX1_settleFolded_8 h
set_option maxRecDepth 100000 in
theorem s_X1_settlePlain_L25 {l : Launch} {D : va_G} {ad : Nat → Nat} {cA : Nat → ClassId} (Q : Mem → Prop) : ∀ (n : Nat) (M : Mem) (x1 : Int) (x2 : Int), rg x1 → rg x2 → w_X1_settlePlain_L25 Q n M x1 x2 → AW (xC l D ad cA) mX1_settlePlain (qV Q) 25 [(0, .ref (ad 2)), (1, vi x1), (2, vi x2)] [] M := by
  intro n
  induction n with
  | zero => intro M x1 x2 e1 e2 h; exact absurd h id
  | succ n ih =>
    intro M x1 x2 e1 e2 h
    refine a_iload_n 2 rfl dX1_settlePlain_25 ?_
    refine a_iconst dX1_settlePlain_26 ?_
    refine a_icmp_ge 59 e2 (rgk 2 (by decide)) (by decide) dX1_settlePlain_27 (fun c1 => ?_) (fun c1 => ?_)
    · have h := h.1 c1
      refine a_aload_n 0 rfl dX1_settlePlain_59 ?_
      refine gfX1_30 dX1_settlePlain_60 ?_
      refine a_iconst dX1_settlePlain_63 ?_
      obtain ⟨b2, h⟩ := h
      refine ldC_rows dX1_settlePlain_64 b2 ?_
      refine a_iload_n 1 rfl dX1_settlePlain_65 ?_
      refine a_lconst (v := 1) rfl dX1_settlePlain_66 ?_
      obtain ⟨b3, h⟩ := h
      refine stC_row b2 dX1_settlePlain_67 b3 (rlk 1 (by decide)) ?_
      refine a_aload_n 0 rfl dX1_settlePlain_68 ?_
      refine gfX1_30 dX1_settlePlain_69 ?_
      refine a_iconst dX1_settlePlain_72 ?_
      obtain ⟨b4, h⟩ := h
      refine ldC_rows dX1_settlePlain_73 b4 ?_
      refine a_iload_n 1 rfl dX1_settlePlain_74 ?_
      refine a_lconst (v := 0) rfl dX1_settlePlain_75 ?_
      obtain ⟨b5, h⟩ := h
      refine stC_row b4 dX1_settlePlain_76 b5 (rlk 0 (by decide)) ?_
      exact a_vret rfl dX1_settlePlain_77 h
    · have h := h.2 c1
      refine a_aload_n 0 rfl dX1_settlePlain_30 ?_
      refine gfX1_30 dX1_settlePlain_31 ?_
      refine a_iload_n 2 rfl dX1_settlePlain_34 ?_
      obtain ⟨b6, h⟩ := h
      refine ldC_rows dX1_settlePlain_35 b6 ?_
      refine a_iload_n 1 rfl dX1_settlePlain_36 ?_
      refine a_iload_n 2 rfl dX1_settlePlain_37 ?_
      refine a_aload_n 0 rfl dX1_settlePlain_38 ?_
      refine gfX1_9 dX1_settlePlain_39 ?_
      refine a_iload_n 1 rfl dX1_settlePlain_42 ?_
      obtain ⟨b7, h⟩ := h
      refine ldC_12 dX1_settlePlain_43 b7 (fun g8 => ?_)
      refine a_icmp_ge 51 e2 g8 (by decide) dX1_settlePlain_44 (fun c9 => ?_) (fun c9 => ?_)
      · have h := h.1 c9
        refine a_lconst (v := 0) rfl dX1_settlePlain_51 ?_
        obtain ⟨b10, h⟩ := h
        refine stC_row b6 dX1_settlePlain_52 b10 (rlk 0 (by decide)) ?_
        obtain ⟨g11, h⟩ := h
        refine a_iinc (lv' := [(2, vi (x2 + 1)), (0, .ref (ad 2)), (1, vi x1)]) 2 rfl (Nat.le_of_ble_eq_true rfl) rfl dX1_settlePlain_53 ?_
        refine a_goto 25 (by decide) dX1_settlePlain_56 ?_
        refine AW.pick [1, 2, 0] rfl ?_
        exact ih (up M (18 + Int.toNat x2) x1 0) x1 (x2 + 1) e1 g11 h
      · have h := h.2 c9
        refine a_lconst (v := 1) rfl dX1_settlePlain_47 ?_
        refine a_goto 52 (by decide) dX1_settlePlain_48 ?_
        obtain ⟨b12, h⟩ := h
        refine stC_row b6 dX1_settlePlain_52 b12 (rlk 1 (by decide)) ?_
        obtain ⟨g13, h⟩ := h
        refine a_iinc (lv' := [(2, vi (x2 + 1)), (0, .ref (ad 2)), (1, vi x1)]) 2 rfl (Nat.le_of_ble_eq_true rfl) rfl dX1_settlePlain_53 ?_
        refine a_goto 25 (by decide) dX1_settlePlain_56 ?_
        refine AW.pick [1, 2, 0] rfl ?_
        exact ih (up M (18 + Int.toNat x2) x1 1) x1 (x2 + 1) e1 g13 h
set_option maxRecDepth 100000 in
theorem s_X1_settlePlain {l : Launch} {D : va_G} {ad : Nat → Nat} {cA : Nat → ClassId} {M : Mem} {x1 : Int} {Q : Mem → Prop} (e1 : rg x1) (h : w_X1_settlePlain M x1 Q) : AM (xC l D ad cA) yX1_settlePlain mX1_settlePlain [.ref (ad 2), vi x1] M (qV Q) := by
  refine AM.ofAW (by decide +kernel) rfl (Nat.le_of_ble_eq_true rfl) ?_
  show AW (xC l D ad cA) mX1_settlePlain (qV Q) 0 [(0, .ref (ad 2)), (1, vi x1)] [] M
  refine a_aload_n 0 rfl dX1_settlePlain_0 ?_
  refine a_iload_n 1 rfl dX1_settlePlain_1 ?_
  refine kX1_45 (Nat.le_of_ble_eq_true rfl) (Nat.le_of_ble_eq_true rfl) dX1_settlePlain_2 (s_X1_has e1 h) (fun r2 M1 g3 h => ?_)
  refine a_if_ne 9 g3 (by decide) dX1_settlePlain_5 (fun c4 => ?_) (fun c4 => ?_)
  · have h := h.1 c4
    refine a_aload_n 0 rfl dX1_settlePlain_9 ?_
    refine gfX1_22 dX1_settlePlain_10 ?_
    refine a_iload_n 1 rfl dX1_settlePlain_13 ?_
    refine a_iconst dX1_settlePlain_14 ?_
    obtain ⟨b5, h⟩ := h
    refine stC_15 dX1_settlePlain_15 b5 (rgk 0 (by decide)) ?_
    refine a_aload_n 0 rfl dX1_settlePlain_16 ?_
    refine gfX1_25 dX1_settlePlain_17 ?_
    refine a_iload_n 1 rfl dX1_settlePlain_20 ?_
    refine a_iload_n 1 rfl dX1_settlePlain_21 ?_
    obtain ⟨b6, h⟩ := h
    refine stC_16 dX1_settlePlain_22 b6 e1 ?_
    refine a_iconst dX1_settlePlain_23 ?_
    refine a_istore_n (lv' := [(2, vi 0), (0, .ref (ad 2)), (1, vi x1)]) (Nat.le_of_ble_eq_true rfl) rfl dX1_settlePlain_24 ?_
    obtain ⟨n25, h⟩ := h
    refine AW.pick [1, 2, 0] rfl ?_
    exact s_X1_settlePlain_L25 Q n25 (up (up M1 15 x1 0) 16 x1 x1) x1 0 e1 (rgk 0 (by decide)) h
  · have h := h.2 c4
    exact a_vret rfl dX1_settlePlain_8 h
set_option maxRecDepth 100000 in
theorem s_X1_settleFrom_L2 {l : Launch} {D : va_G} {ad : Nat → Nat} {cA : Nat → ClassId} (Q : Mem → Prop) : ∀ (n : Nat) (M : Mem) (x2 : Int), rg x2 → w_X1_settleFrom_L2 Q n M x2 → AW (xC l D ad cA) mX1_settleFrom (qV Q) 2 [(0, .ref (ad 2)), (2, vi x2)] [] M := by
  intro n
  induction n with
  | zero => intro M x2 e2 h; exact absurd h id
  | succ n ih =>
    intro M x2 e2 h
    refine a_iload_n 1 rfl dX1_settleFrom_2 ?_
    refine a_aload_n 0 rfl dX1_settleFrom_3 ?_
    refine gfX1_37 dX1_settleFrom_4 (fun g1 => ?_)
    refine a_icmp_ge 37 e2 g1 (by decide) dX1_settleFrom_7 (fun c2 => ?_) (fun c2 => ?_)
    · have h := h.1 c2
      exact a_vret rfl dX1_settleFrom_37 h
    · have h := h.2 c2
      refine a_aload_n 0 rfl dX1_settleFrom_10 ?_
      refine a_iload_n 1 rfl dX1_settleFrom_11 ?_
      refine kX1_41 (Nat.le_of_ble_eq_true rfl) (Nat.le_of_ble_eq_true rfl) dX1_settleFrom_12 (s_X1_isFolded e2 h) (fun r4 M3 g5 h => ?_)
      refine a_if_eq 26 g5 (by decide) dX1_settleFrom_15 (fun c6 => ?_) (fun c6 => ?_)
      · have h := h.1 c6
        refine a_aload_n 0 rfl dX1_settleFrom_26 ?_
        refine a_iload_n 1 rfl dX1_settleFrom_27 ?_
        refine kX1_74 (Nat.le_of_ble_eq_true rfl) (Nat.le_of_ble_eq_true rfl) dX1_settleFrom_28 (s_X1_settlePlain e2 h) (fun M7 h => ?_)
        obtain ⟨g10, h⟩ := h
        refine a_iinc (lv' := [(2, vi (x2 + 1)), (0, .ref (ad 2))]) 1 rfl (Nat.le_of_ble_eq_true rfl) rfl dX1_settleFrom_31 ?_
        refine a_goto 2 (by decide) dX1_settleFrom_34 ?_
        refine AW.pick [1, 0] rfl ?_
        exact ih M7 (x2 + 1) g10 h
      · have h := h.2 c6
        refine a_aload_n 0 rfl dX1_settleFrom_18 ?_
        refine a_iload_n 1 rfl dX1_settleFrom_19 ?_
        refine kX1_71 (Nat.le_of_ble_eq_true rfl) (Nat.le_of_ble_eq_true rfl) dX1_settleFrom_20 (s_X1_settleFolded e2 h) (fun M11 h => ?_)
        refine a_goto 31 (by decide) dX1_settleFrom_23 ?_
        obtain ⟨g14, h⟩ := h
        refine a_iinc (lv' := [(2, vi (x2 + 1)), (0, .ref (ad 2))]) 1 rfl (Nat.le_of_ble_eq_true rfl) rfl dX1_settleFrom_31 ?_
        refine a_goto 2 (by decide) dX1_settleFrom_34 ?_
        refine AW.pick [1, 0] rfl ?_
        exact ih M11 (x2 + 1) g14 h
set_option maxRecDepth 100000 in
theorem s_X1_settleFrom {l : Launch} {D : va_G} {ad : Nat → Nat} {cA : Nat → ClassId} {M : Mem} {x1 : Int} {Q : Mem → Prop} (e1 : rg x1) (h : w_X1_settleFrom M x1 Q) : AM (xC l D ad cA) yX1_settleFrom mX1_settleFrom [.ref (ad 2), vi x1] M (qV Q) := by
  refine AM.ofAW (by decide +kernel) rfl (Nat.le_of_ble_eq_true rfl) ?_
  show AW (xC l D ad cA) mX1_settleFrom (qV Q) 0 [(0, .ref (ad 2)), (1, vi x1)] [] M
  refine a_iload_n 1 rfl dX1_settleFrom_0 ?_
  refine a_istore_n (lv' := [(2, vi x1), (0, .ref (ad 2)), (1, vi x1)]) (Nat.le_of_ble_eq_true rfl) rfl dX1_settleFrom_1 ?_
  obtain ⟨n2, h⟩ := h
  refine AW.pick [1, 0] rfl ?_
  exact s_X1_settleFrom_L2 Q n2 M x1 e1 h
set_option maxRecDepth 100000 in
theorem s_X1_come {l : Launch} {D : va_G} {ad : Nat → Nat} {cA : Nat → ClassId} {M : Mem} {x1 : Int} {Q : Int → Mem → Prop} (e1 : rg x1) (h : w_X1_come M x1 Q) : AM (xC l D ad cA) yX1_come mX1_come [.ref (ad 2), vi x1] M (qI Q) := by
  refine AM.ofAW (by decide +kernel) rfl (Nat.le_of_ble_eq_true rfl) ?_
  show AW (xC l D ad cA) mX1_come (qI Q) 0 [(0, .ref (ad 2)), (1, vi x1)] [] M
  refine a_aload_n 0 rfl dX1_come_0 ?_
  refine gfX1_37 dX1_come_1 (fun g1 => ?_)
  refine a_bipush (by decide) dX1_come_4 ?_
  refine a_icmp_lt 12 g1 (rgk 12 (by decide)) (by decide) dX1_come_6 (fun c2 => ?_) (fun c2 => ?_)
  · have h := h.1 c2
    refine a_aload_n 0 rfl dX1_come_12 ?_
    refine gfX1_37 dX1_come_13 (fun g3 => ?_)
    refine a_istore_n (lv' := [(2, vi (M 2 7)), (0, .ref (ad 2)), (1, vi x1)]) (Nat.le_of_ble_eq_true rfl) rfl dX1_come_16 ?_
    refine a_aload_n 1 rfl dX1_come_17 ?_
    refine gfX1_9 dX1_come_18 ?_
    refine a_iload_n 0 rfl dX1_come_21 ?_
    refine a_iload_n 2 rfl dX1_come_22 ?_
    obtain ⟨b4, h⟩ := h
    refine stC_12 dX1_come_23 b4 e1 ?_
    refine a_aload_n 1 rfl dX1_come_24 ?_
    refine gfX1_15 dX1_come_25 ?_
    refine a_iload_n 0 rfl dX1_come_28 ?_
    refine a_bipush (by decide) dX1_come_29 ?_
    obtain ⟨b5, h⟩ := h
    refine stC_13 dX1_come_31 b5 (rgk (-9) (by decide)) ?_
    refine a_aload_n 1 rfl dX1_come_32 ?_
    refine gfX1_18 dX1_come_33 ?_
    refine a_iload_n 0 rfl dX1_come_36 ?_
    refine a_iconst dX1_come_37 ?_
    obtain ⟨b6, h⟩ := h
    refine stC_14 dX1_come_38 b6 (Or.inl rfl) ?_
    refine a_aload_n 1 rfl dX1_come_39 ?_
    refine a_dup rfl dX1_come_40 ?_
    refine gfX1_37 dX1_come_41 (fun g7 => ?_)
    refine a_iconst dX1_come_44 ?_
    obtain ⟨g8, h⟩ := h
    refine a_iadd dX1_come_45 ?_
    refine pfX1_37 dX1_come_46 g8 ?_
    refine a_aload_n 1 rfl dX1_come_49 ?_
    refine a_iload_n 0 rfl dX1_come_50 ?_
    refine kX1_55 (Nat.le_of_ble_eq_true rfl) (Nat.le_of_ble_eq_true rfl) dX1_come_51 (s_X1_settleFrom g3 h) (fun M9 h => ?_)
    refine a_iload_n 0 rfl dX1_come_54 ?_
    exact a_iret rfl dX1_come_55 g3 h
  · have h := h.2 c2
    refine a_bipush (by decide) dX1_come_9 ?_
    exact a_iret rfl dX1_come_11 (rgk (-4) (by decide)) h
set_option maxRecDepth 100000 in
theorem s_X3_name {l : Launch} {D : va_G} {ad : Nat → Nat} {cA : Nat → ClassId} {M : Mem} {x1 : Int} {Q : Int → Mem → Prop} (e1 : rg x1) (h : w_X3_name M x1 Q) : AM (xC l D ad cA) yX3_name mX3_name [.ref (ad 0), vi x1] M (qI Q) := by
  refine AM.ofAW (by decide +kernel) rfl (Nat.le_of_ble_eq_true rfl) ?_
  show AW (xC l D ad cA) mX3_name (qI Q) 0 [(0, .ref (ad 0)), (1, vi x1)] [] M
  refine a_iload_n 1 rfl dX3_name_0 ?_
  refine a_if_lt 9 e1 (by decide) dX3_name_1 (fun c1 => ?_) (fun c1 => ?_)
  · have h := h.1 c1
    refine a_bipush (by decide) dX3_name_9 ?_
    exact a_iret rfl dX3_name_11 (rgk (-2) (by decide)) h
  · have h := h.2 c1
    refine a_iload_n 1 rfl dX3_name_4 ?_
    refine a_iconst dX3_name_5 ?_
    refine a_icmp_le 12 e1 (rgk 2 (by decide)) (by decide) dX3_name_6 (fun c2 => ?_) (fun c2 => ?_)
    · have h := h.1 c2
      refine a_aload_n 0 rfl dX3_name_12 ?_
      refine gfX3_23 dX3_name_13 ?_
      refine a_iload_n 1 rfl dX3_name_16 ?_
      refine kX3_36 (Nat.le_of_ble_eq_true rfl) (Nat.le_of_ble_eq_true rfl) dX3_name_17 (s_X1_come e1 h) (fun r4 M3 g5 h => ?_)
      exact a_iret rfl dX3_name_20 g5 h
    · have h := h.2 c2
      refine a_bipush (by decide) dX3_name_9 ?_
      exact a_iret rfl dX3_name_11 (rgk (-2) (by decide)) h
set_option maxRecDepth 100000 in
theorem s_X2_find_L3 {l : Launch} {D : va_G} {ad : Nat → Nat} {cA : Nat → ClassId} (Q : Int → Mem → Prop) : ∀ (n : Nat) (M : Mem) (x1 : Int) (x2 : Int) (x3 : Int) (x4 : Int), rg x1 → rg x2 → rg x3 → rg x4 → w_X2_find_L3 Q n M x1 x2 x3 x4 → AW (xC l D ad cA) mX2_find (qI Q) 3 [(0, .ref (ad 1)), (1, vi x1), (2, vi x2), (3, vi x3), (4, vi x4)] [] M := by
  intro n
  induction n with
  | zero => intro M x1 x2 x3 x4 e1 e2 e3 e4 h; exact absurd h id
  | succ n ih =>
    intro M x1 x2 x3 x4 e1 e2 e3 e4 h
    refine a_iload 4 rfl dX2_find_3 ?_
    refine a_aload_n 0 rfl dX2_find_5 ?_
    refine gfX2_40 dX2_find_6 (fun g1 => ?_)
    refine a_icmp_ge 54 e4 g1 (by decide) dX2_find_9 (fun c2 => ?_) (fun c2 => ?_)
    · have h := h.1 c2
      refine a_bipush (by decide) dX2_find_54 ?_
      exact a_iret rfl dX2_find_56 (rgk (-9) (by decide)) h
    · have h := h.2 c2
      refine a_aload_n 0 rfl dX2_find_12 ?_
      refine gfX2_9 dX2_find_13 ?_
      refine a_iload 4 rfl dX2_find_16 ?_
      obtain ⟨b3, h⟩ := h
      refine ldC_4 dX2_find_18 b3 (fun g4 => ?_)
      refine a_iload_n 1 rfl dX2_find_19 ?_
      refine a_icmp_ne 48 g4 e1 (by decide) dX2_find_20 (fun c5 => ?_) (fun c5 => ?_)
      · have h := h.1 c5
        obtain ⟨g6, h⟩ := h
        refine a_iinc (lv' := [(4, vi (x4 + 1)), (0, .ref (ad 1)), (1, vi x1), (2, vi x2), (3, vi x3)]) 4 rfl (Nat.le_of_ble_eq_true rfl) rfl dX2_find_48 ?_
        refine a_goto 3 (by decide) dX2_find_51 ?_
        refine AW.pick [1, 2, 3, 4, 0] rfl ?_
        exact ih M x1 x2 x3 (x4 + 1) e1 e2 e3 g6 h
      · have h := h.2 c5
        refine a_aload_n 0 rfl dX2_find_23 ?_
        refine gfX2_15 dX2_find_24 ?_
        refine a_iload 4 rfl dX2_find_27 ?_
        obtain ⟨b7, h⟩ := h
        refine ldC_5 dX2_find_29 b7 (fun g8 => ?_)
        refine a_iload_n 2 rfl dX2_find_30 ?_
        refine a_icmp_ne 48 g8 e2 (by decide) dX2_find_31 (fun c9 => ?_) (fun c9 => ?_)
        · have h := h.1 c9
          obtain ⟨g10, h⟩ := h
          refine a_iinc (lv' := [(4, vi (x4 + 1)), (0, .ref (ad 1)), (1, vi x1), (2, vi x2), (3, vi x3)]) 4 rfl (Nat.le_of_ble_eq_true rfl) rfl dX2_find_48 ?_
          refine a_goto 3 (by decide) dX2_find_51 ?_
          refine AW.pick [1, 2, 3, 4, 0] rfl ?_
          exact ih M x1 x2 x3 (x4 + 1) e1 e2 e3 g10 h
        · have h := h.2 c9
          refine a_aload_n 0 rfl dX2_find_34 ?_
          refine gfX2_18 dX2_find_35 ?_
          refine a_iload 4 rfl dX2_find_38 ?_
          obtain ⟨b11, h⟩ := h
          refine ldC_6 dX2_find_40 b11 (fun g12 => ?_)
          refine a_iload_n 3 rfl dX2_find_41 ?_
          refine a_icmp_ne 48 g12 e3 (by decide) dX2_find_42 (fun c13 => ?_) (fun c13 => ?_)
          · have h := h.1 c13
            obtain ⟨g14, h⟩ := h
            refine a_iinc (lv' := [(4, vi (x4 + 1)), (0, .ref (ad 1)), (1, vi x1), (2, vi x2), (3, vi x3)]) 4 rfl (Nat.le_of_ble_eq_true rfl) rfl dX2_find_48 ?_
            refine a_goto 3 (by decide) dX2_find_51 ?_
            refine AW.pick [1, 2, 3, 4, 0] rfl ?_
            exact ih M x1 x2 x3 (x4 + 1) e1 e2 e3 g14 h
          · have h := h.2 c13
            refine a_iload 4 rfl dX2_find_45 ?_
            exact a_iret rfl dX2_find_47 e4 h
set_option maxRecDepth 100000 in
theorem s_X2_find {l : Launch} {D : va_G} {ad : Nat → Nat} {cA : Nat → ClassId} {M : Mem} {x1 : Int} {x2 : Int} {x3 : Int} {Q : Int → Mem → Prop} (e1 : rg x1) (e2 : rg x2) (e3 : rg x3) (h : w_X2_find M x1 x2 x3 Q) : AM (xC l D ad cA) yX2_find mX2_find [.ref (ad 1), vi x1, vi x2, vi x3] M (qI Q) := by
  refine AM.ofAW (by decide +kernel) rfl (Nat.le_of_ble_eq_true rfl) ?_
  show AW (xC l D ad cA) mX2_find (qI Q) 0 [(0, .ref (ad 1)), (1, vi x1), (2, vi x2), (3, vi x3)] [] M
  refine a_iconst dX2_find_0 ?_
  refine a_istore (lv' := [(4, vi 0), (0, .ref (ad 1)), (1, vi x1), (2, vi x2), (3, vi x3)]) (Nat.le_of_ble_eq_true rfl) rfl dX2_find_1 ?_
  obtain ⟨n3, h⟩ := h
  refine AW.pick [1, 2, 3, 4, 0] rfl ?_
  exact s_X2_find_L3 Q n3 M x1 x2 x3 0 e1 e2 e3 (rgk 0 (by decide)) h
set_option maxRecDepth 100000 in
theorem s_X2_hold {l : Launch} {D : va_G} {ad : Nat → Nat} {cA : Nat → ClassId} {M : Mem} {x1 : Int} {x2 : Int} {x3 : Int} {Q : Int → Mem → Prop} (e1 : rg x1) (e2 : rg x2) (e3 : rg x3) (h : w_X2_hold M x1 x2 x3 Q) : AM (xC l D ad cA) yX2_hold mX2_hold [.ref (ad 1), vi x1, vi x2, vi x3] M (qI Q) := by
  refine AM.ofAW (by decide +kernel) rfl (Nat.le_of_ble_eq_true rfl) ?_
  show AW (xC l D ad cA) mX2_hold (qI Q) 0 [(0, .ref (ad 1)), (1, vi x1), (2, vi x2), (3, vi x3)] [] M
  refine a_aload_n 0 rfl dX2_hold_0 ?_
  refine gfX2_40 dX2_hold_1 (fun g1 => ?_)
  refine a_sipush (by decide) dX2_hold_4 ?_
  refine a_icmp_lt 13 g1 (rgk 370 (by decide)) (by decide) dX2_hold_7 (fun c2 => ?_) (fun c2 => ?_)
  · have h := h.1 c2
    refine a_aload_n 0 rfl dX2_hold_13 ?_
    refine gfX2_40 dX2_hold_14 (fun g3 => ?_)
    refine a_istore (lv' := [(4, vi (M 1 9)), (0, .ref (ad 1)), (1, vi x1), (2, vi x2), (3, vi x3)]) (Nat.le_of_ble_eq_true rfl) rfl dX2_hold_17 ?_
    refine a_aload_n 1 rfl dX2_hold_19 ?_
    refine gfX2_9 dX2_hold_20 ?_
    refine a_iload 0 rfl dX2_hold_23 ?_
    refine a_iload_n 2 rfl dX2_hold_25 ?_
    obtain ⟨b4, h⟩ := h
    refine stC_4 dX2_hold_26 b4 e1 ?_
    refine a_aload_n 1 rfl dX2_hold_27 ?_
    refine gfX2_15 dX2_hold_28 ?_
    refine a_iload 0 rfl dX2_hold_31 ?_
    refine a_iload_n 3 rfl dX2_hold_33 ?_
    obtain ⟨b5, h⟩ := h
    refine stC_5 dX2_hold_34 b5 e2 ?_
    refine a_aload_n 1 rfl dX2_hold_35 ?_
    refine gfX2_18 dX2_hold_36 ?_
    refine a_iload 0 rfl dX2_hold_39 ?_
    refine a_iload_n 4 rfl dX2_hold_41 ?_
    obtain ⟨b6, h⟩ := h
    refine stC_6 dX2_hold_42 b6 e3 ?_
    refine a_aload_n 1 rfl dX2_hold_43 ?_
    refine a_dup rfl dX2_hold_44 ?_
    refine gfX2_40 dX2_hold_45 (fun g7 => ?_)
    refine a_iconst dX2_hold_48 ?_
    obtain ⟨g8, h⟩ := h
    refine a_iadd dX2_hold_49 ?_
    refine pfX2_40 dX2_hold_50 g8 ?_
    refine a_iload 0 rfl dX2_hold_53 ?_
    exact a_iret rfl dX2_hold_55 g3 h
  · have h := h.2 c2
    refine a_bipush (by decide) dX2_hold_10 ?_
    exact a_iret rfl dX2_hold_12 (rgk (-9) (by decide)) h
set_option maxRecDepth 100000 in
theorem s_X2_depthOf {l : Launch} {D : va_G} {ad : Nat → Nat} {cA : Nat → ClassId} {M : Mem} {x1 : Int} {Q : Int → Mem → Prop} (e1 : rg x1) (h : w_X2_depthOf M x1 Q) : AM (xC l D ad cA) yX2_depthOf mX2_depthOf [.ref (ad 1), vi x1] M (qI Q) := by
  refine AM.ofAW (by decide +kernel) rfl (Nat.le_of_ble_eq_true rfl) ?_
  show AW (xC l D ad cA) mX2_depthOf (qI Q) 0 [(0, .ref (ad 1)), (1, vi x1)] [] M
  refine a_aload_n 0 rfl dX2_depthOf_0 ?_
  refine a_iload_n 1 rfl dX2_depthOf_1 ?_
  refine kX2_50 (Nat.le_of_ble_eq_true rfl) (Nat.le_of_ble_eq_true rfl) dX2_depthOf_2 (s_X2_wasMade e1 h) (fun r2 M1 g3 h => ?_)
  refine a_if_eq 17 g3 (by decide) dX2_depthOf_5 (fun c4 => ?_) (fun c4 => ?_)
  · have h := h.1 c4
    refine a_iconst dX2_depthOf_17 ?_
    exact a_iret rfl dX2_depthOf_18 (rgk 0 (by decide)) h
  · have h := h.2 c4
    refine a_aload_n 0 rfl dX2_depthOf_8 ?_
    refine gfX2_21 dX2_depthOf_9 ?_
    refine a_iload_n 1 rfl dX2_depthOf_12 ?_
    obtain ⟨b5, h⟩ := h
    refine ldC_7 dX2_depthOf_13 b5 (fun g6 => ?_)
    refine a_goto 18 (by decide) dX2_depthOf_14 ?_
    exact a_iret rfl dX2_depthOf_18 g6 h
set_option maxRecDepth 100000 in
theorem s_X2_depthAbove {l : Launch} {D : va_G} {ad : Nat → Nat} {cA : Nat → ClassId} {M : Mem} {x1 : Int} {x2 : Int} {Q : Int → Mem → Prop} (e1 : rg x1) (e2 : rg x2) (h : w_X2_depthAbove M x1 x2 Q) : AM (xC l D ad cA) yX2_depthAbove mX2_depthAbove [.ref (ad 1), vi x1, vi x2] M (qI Q) := by
  refine AM.ofAW (by decide +kernel) rfl (Nat.le_of_ble_eq_true rfl) ?_
  show AW (xC l D ad cA) mX2_depthAbove (qI Q) 0 [(0, .ref (ad 1)), (1, vi x1), (2, vi x2)] [] M
  refine a_iconst dX2_depthAbove_0 ?_
  refine a_aload_n 0 rfl dX2_depthAbove_1 ?_
  refine a_iload_n 1 rfl dX2_depthAbove_2 ?_
  refine kX2_53 (Nat.le_of_ble_eq_true rfl) (Nat.le_of_ble_eq_true rfl) dX2_depthAbove_3 (s_X2_depthOf e1 h) (fun r2 M1 g3 h => ?_)
  refine a_aload_n 0 rfl dX2_depthAbove_6 ?_
  refine a_iload_n 2 rfl dX2_depthAbove_7 ?_
  refine kX2_53 (Nat.le_of_ble_eq_true rfl) (Nat.le_of_ble_eq_true rfl) dX2_depthAbove_8 (s_X2_depthOf e2 h) (fun r5 M4 g6 h => ?_)
  refine kX2_57 (Nat.le_of_ble_eq_true rfl) (Nat.le_of_ble_eq_true rfl) g3 g6 dX2_depthAbove_11 ?_
  obtain ⟨g7, h⟩ := h
  refine a_iadd dX2_depthAbove_14 ?_
  exact a_iret rfl dX2_depthAbove_15 g7 h
set_option maxRecDepth 100000 in
theorem s_X2_sizeOf {l : Launch} {D : va_G} {ad : Nat → Nat} {cA : Nat → ClassId} {M : Mem} {x1 : Int} {Q : Int → Mem → Prop} (e1 : rg x1) (h : w_X2_sizeOf M x1 Q) : AM (xC l D ad cA) yX2_sizeOf mX2_sizeOf [.ref (ad 1), vi x1] M (qI Q) := by
  refine AM.ofAW (by decide +kernel) rfl (Nat.le_of_ble_eq_true rfl) ?_
  show AW (xC l D ad cA) mX2_sizeOf (qI Q) 0 [(0, .ref (ad 1)), (1, vi x1)] [] M
  refine a_aload_n 0 rfl dX2_sizeOf_0 ?_
  refine a_iload_n 1 rfl dX2_sizeOf_1 ?_
  refine kX2_50 (Nat.le_of_ble_eq_true rfl) (Nat.le_of_ble_eq_true rfl) dX2_sizeOf_2 (s_X2_wasMade e1 h) (fun r2 M1 g3 h => ?_)
  refine a_if_eq 17 g3 (by decide) dX2_sizeOf_5 (fun c4 => ?_) (fun c4 => ?_)
  · have h := h.1 c4
    refine a_iconst dX2_sizeOf_17 ?_
    exact a_iret rfl dX2_sizeOf_18 (rgk 0 (by decide)) h
  · have h := h.2 c4
    refine a_aload_n 0 rfl dX2_sizeOf_8 ?_
    refine gfX2_24 dX2_sizeOf_9 ?_
    refine a_iload_n 1 rfl dX2_sizeOf_12 ?_
    obtain ⟨b5, h⟩ := h
    refine ldC_8 dX2_sizeOf_13 b5 (fun g6 => ?_)
    refine a_goto 18 (by decide) dX2_sizeOf_14 ?_
    exact a_iret rfl dX2_sizeOf_18 g6 h
set_option maxRecDepth 100000 in
theorem s_X2_timesOfParameter {l : Launch} {D : va_G} {ad : Nat → Nat} {cA : Nat → ClassId} {M : Mem} {x1 : Int} {x2 : Int} {Q : Int → Mem → Prop} (e1 : rg x1) (e2 : rg x2) (h : w_X2_timesOfParameter M x1 x2 Q) : AM (xC l D ad cA) yX2_timesOfParameter mX2_timesOfParameter [.ref (ad 1), vi x1, vi x2] M (qI Q) := by
  refine AM.ofAW (by decide +kernel) rfl (Nat.le_of_ble_eq_true rfl) ?_
  show AW (xC l D ad cA) mX2_timesOfParameter (qI Q) 0 [(0, .ref (ad 1)), (1, vi x1), (2, vi x2)] [] M
  refine a_aload_n 0 rfl dX2_timesOfParameter_0 ?_
  refine a_iload_n 1 rfl dX2_timesOfParameter_1 ?_
  refine kX2_50 (Nat.le_of_ble_eq_true rfl) (Nat.le_of_ble_eq_true rfl) dX2_timesOfParameter_2 (s_X2_wasMade e1 h) (fun r2 M1 g3 h => ?_)
  refine a_if_ne 10 g3 (by decide) dX2_timesOfParameter_5 (fun c4 => ?_) (fun c4 => ?_)
  · have h := h.1 c4
    refine a_iload_n 2 rfl dX2_timesOfParameter_10 ?_
    refine a_if_ne 23 e2 (by decide) dX2_timesOfParameter_11 (fun c5 => ?_) (fun c5 => ?_)
    · have h := h.1 c5
      refine a_aload_n 0 rfl dX2_timesOfParameter_23 ?_
      refine gfX2_33 dX2_timesOfParameter_24 ?_
      refine a_iload_n 1 rfl dX2_timesOfParameter_27 ?_
      obtain ⟨b6, h⟩ := h
      refine ldC_11 dX2_timesOfParameter_28 b6 (fun g7 => ?_)
      exact a_iret rfl dX2_timesOfParameter_29 g7 h
    · have h := h.2 c5
      refine a_aload_n 0 rfl dX2_timesOfParameter_14 ?_
      refine gfX2_30 dX2_timesOfParameter_15 ?_
      refine a_iload_n 1 rfl dX2_timesOfParameter_18 ?_
      obtain ⟨b8, h⟩ := h
      refine ldC_10 dX2_timesOfParameter_19 b8 (fun g9 => ?_)
      refine a_goto 29 (by decide) dX2_timesOfParameter_20 ?_
      exact a_iret rfl dX2_timesOfParameter_29 g9 h
  · have h := h.2 c4
    refine a_iconst dX2_timesOfParameter_8 ?_
    exact a_iret rfl dX2_timesOfParameter_9 (rgk 0 (by decide)) h
set_option maxRecDepth 100000 in
theorem s_X2_measure_J126 {l : Launch} {D : va_G} {ad : Nat → Nat} {cA : Nat → ClassId} (Q : Mem → Prop) (M : Mem) (x1 : Int) (x2 : Int) (x3 : Int) (x4 : Int) (y1 : Int) (y2 : Int) (y3 : Int) (e1 : rg x1) (e2 : rg x2) (e3 : rg x3) (e4 : rg x4) (f1 : rg y1) (f2 : rg y2) (f3 : rg y3) (h : w_X2_measure_J126 Q M x1 x2 x3 x4 y1 y2 y3) : AW (xC l D ad cA) mX2_measure (qV Q) 126 [(0, .ref (ad 1)), (1, vi x1), (2, vi x2), (3, vi x3), (4, vi x4)] [vi y3, vi y2, vi y1, .ref (ad 10)] M := by
  obtain ⟨g1, h⟩ := h
  refine a_iadd dX2_measure_126 ?_
  obtain ⟨b2, h⟩ := h
  refine stC_10 dX2_measure_127 b2 g1 ?_
  refine a_aload_n 0 rfl dX2_measure_128 ?_
  refine gfX2_33 dX2_measure_129 ?_
  refine a_iload_n 1 rfl dX2_measure_132 ?_
  refine a_aload_n 0 rfl dX2_measure_133 ?_
  refine a_iload_n 3 rfl dX2_measure_134 ?_
  refine a_iconst dX2_measure_135 ?_
  refine kX2_63 (Nat.le_of_ble_eq_true rfl) (Nat.le_of_ble_eq_true rfl) dX2_measure_136 (s_X2_timesOfParameter e3 (rgk 1 (by decide)) h) (fun r4 M3 g5 h => ?_)
  refine a_aload_n 0 rfl dX2_measure_139 ?_
  refine a_iload 4 rfl dX2_measure_140 ?_
  refine a_iconst dX2_measure_142 ?_
  refine kX2_63 (Nat.le_of_ble_eq_true rfl) (Nat.le_of_ble_eq_true rfl) dX2_measure_143 (s_X2_timesOfParameter e4 (rgk 1 (by decide)) h) (fun r7 M6 g8 h => ?_)
  obtain ⟨g9, h⟩ := h
  refine a_iadd dX2_measure_146 ?_
  refine a_iload_n 2 rfl dX2_measure_147 ?_
  refine a_bipush (by decide) dX2_measure_148 ?_
  refine a_icmp_le 157 e2 (rgk 100 (by decide)) (by decide) dX2_measure_150 (fun c10 => ?_) (fun c10 => ?_)
  · have h := h.1 c10
    refine a_iconst dX2_measure_157 ?_
    obtain ⟨g11, h⟩ := h
    refine a_iadd dX2_measure_158 ?_
    obtain ⟨b12, h⟩ := h
    refine stC_11 dX2_measure_159 b12 g11 ?_
    exact a_vret rfl dX2_measure_160 h
  · have h := h.2 c10
    refine a_iconst dX2_measure_153 ?_
    refine a_goto 158 (by decide) dX2_measure_154 ?_
    obtain ⟨g13, h⟩ := h
    refine a_iadd dX2_measure_158 ?_
    obtain ⟨b14, h⟩ := h
    refine stC_11 dX2_measure_159 b14 g13 ?_
    exact a_vret rfl dX2_measure_160 h
set_option maxRecDepth 100000 in
theorem s_X2_measure_J94 {l : Launch} {D : va_G} {ad : Nat → Nat} {cA : Nat → ClassId} (Q : Mem → Prop) (M : Mem) (x1 : Int) (x2 : Int) (x3 : Int) (x4 : Int) (y1 : Int) (y2 : Int) (y3 : Int) (e1 : rg x1) (e2 : rg x2) (e3 : rg x3) (e4 : rg x4) (f1 : rg y1) (f2 : rg y2) (f3 : rg y3) (h : w_X2_measure_J94 Q M x1 x2 x3 x4 y1 y2 y3) : AW (xC l D ad cA) mX2_measure (qV Q) 94 [(0, .ref (ad 1)), (1, vi x1), (2, vi x2), (3, vi x3), (4, vi x4)] [vi y3, vi y2, vi y1, .ref (ad 9)] M := by
  refine a_ior dX2_measure_94 ?_
  obtain ⟨b1, h⟩ := h
  refine stC_9 dX2_measure_95 b1 (rg_t _) ?_
  refine a_aload_n 0 rfl dX2_measure_96 ?_
  refine gfX2_30 dX2_measure_97 ?_
  refine a_iload_n 1 rfl dX2_measure_100 ?_
  refine a_aload_n 0 rfl dX2_measure_101 ?_
  refine a_iload_n 3 rfl dX2_measure_102 ?_
  refine a_iconst dX2_measure_103 ?_
  refine kX2_63 (Nat.le_of_ble_eq_true rfl) (Nat.le_of_ble_eq_true rfl) dX2_measure_104 (s_X2_timesOfParameter e3 (rgk 0 (by decide)) h) (fun r3 M2 g4 h => ?_)
  refine a_aload_n 0 rfl dX2_measure_107 ?_
  refine a_iload 4 rfl dX2_measure_108 ?_
  refine a_iconst dX2_measure_110 ?_
  refine kX2_63 (Nat.le_of_ble_eq_true rfl) (Nat.le_of_ble_eq_true rfl) dX2_measure_111 (s_X2_timesOfParameter e4 (rgk 0 (by decide)) h) (fun r6 M5 g7 h => ?_)
  obtain ⟨g8, h⟩ := h
  refine a_iadd dX2_measure_114 ?_
  refine a_iload_n 2 rfl dX2_measure_115 ?_
  refine a_bipush (by decide) dX2_measure_116 ?_
  refine a_icmp_ne 125 e2 (rgk 100 (by decide)) (by decide) dX2_measure_118 (fun c9 => ?_) (fun c9 => ?_)
  · have h := h.1 c9
    refine a_iconst dX2_measure_125 ?_
    refine AW.pick [0, 1, 2, 3, 4] rfl ?_
    exact s_X2_measure_J126 Q M5 x1 x2 x3 x4 x1 (r3 + r6) 0 e1 e2 e3 e4 e1 g8 (rgk 0 (by decide)) h
  · have h := h.2 c9
    refine a_iconst dX2_measure_121 ?_
    refine a_goto 126 (by decide) dX2_measure_122 ?_
    refine AW.pick [0, 1, 2, 3, 4] rfl ?_
    exact s_X2_measure_J126 Q M5 x1 x2 x3 x4 x1 (r3 + r6) 1 e1 e2 e3 e4 e1 g8 (rgk 1 (by decide)) h
set_option maxRecDepth 100000 in
theorem s_X2_measure {l : Launch} {D : va_G} {ad : Nat → Nat} {cA : Nat → ClassId} {M : Mem} {x1 : Int} {Q : Mem → Prop} (e1 : rg x1) (h : w_X2_measure M x1 Q) : AM (xC l D ad cA) yX2_measure mX2_measure [.ref (ad 1), vi x1] M (qV Q) := by
  refine AM.ofAW (by decide +kernel) rfl (Nat.le_of_ble_eq_true rfl) ?_
  show AW (xC l D ad cA) mX2_measure (qV Q) 0 [(0, .ref (ad 1)), (1, vi x1)] [] M
  refine a_aload_n 0 rfl dX2_measure_0 ?_
  refine a_iload_n 1 rfl dX2_measure_1 ?_
  refine kX2_50 (Nat.le_of_ble_eq_true rfl) (Nat.le_of_ble_eq_true rfl) dX2_measure_2 (s_X2_wasMade e1 h) (fun r2 M1 g3 h => ?_)
  refine a_if_ne 9 g3 (by decide) dX2_measure_5 (fun c4 => ?_) (fun c4 => ?_)
  · have h := h.1 c4
    refine a_aload_n 0 rfl dX2_measure_9 ?_
    refine gfX2_9 dX2_measure_10 ?_
    refine a_iload_n 1 rfl dX2_measure_13 ?_
    obtain ⟨b5, h⟩ := h
    refine ldC_4 dX2_measure_14 b5 (fun g6 => ?_)
    refine a_istore_n (lv' := [(2, vi (M1 4 x1)), (0, .ref (ad 1)), (1, vi x1)]) (Nat.le_of_ble_eq_true rfl) rfl dX2_measure_15 ?_
    refine a_aload_n 1 rfl dX2_measure_16 ?_
    refine gfX2_15 dX2_measure_17 ?_
    refine a_iload_n 2 rfl dX2_measure_20 ?_
    obtain ⟨b7, h⟩ := h
    refine ldC_5 dX2_measure_21 b7 (fun g8 => ?_)
    refine a_istore_n (lv' := [(3, vi (M1 5 x1)), (2, vi (M1 4 x1)), (0, .ref (ad 1)), (1, vi x1)]) (Nat.le_of_ble_eq_true rfl) rfl dX2_measure_22 ?_
    refine a_aload_n 2 rfl dX2_measure_23 ?_
    refine gfX2_18 dX2_measure_24 ?_
    refine a_iload_n 3 rfl dX2_measure_27 ?_
    obtain ⟨b9, h⟩ := h
    refine ldC_6 dX2_measure_28 b9 (fun g10 => ?_)
    refine a_istore (lv' := [(4, vi (M1 6 x1)), (3, vi (M1 5 x1)), (2, vi (M1 4 x1)), (0, .ref (ad 1)), (1, vi x1)]) (Nat.le_of_ble_eq_true rfl) rfl dX2_measure_29 ?_
    refine a_aload_n 3 rfl dX2_measure_31 ?_
    refine gfX2_21 dX2_measure_32 ?_
    refine a_iload_n 4 rfl dX2_measure_35 ?_
    refine a_aload_n 3 rfl dX2_measure_36 ?_
    refine a_iload_n 1 rfl dX2_measure_37 ?_
    refine a_iload 0 rfl dX2_measure_38 ?_
    refine kX2_81 (Nat.le_of_ble_eq_true rfl) (Nat.le_of_ble_eq_true rfl) dX2_measure_40 (s_X2_depthAbove g8 g10 h) (fun r12 M11 g13 h => ?_)
    obtain ⟨b14, h⟩ := h
    refine stC_7 dX2_measure_43 b14 g13 ?_
    refine a_aload_n 3 rfl dX2_measure_44 ?_
    refine gfX2_24 dX2_measure_45 ?_
    refine a_iload_n 4 rfl dX2_measure_48 ?_
    refine a_iconst dX2_measure_49 ?_
    refine a_aload_n 3 rfl dX2_measure_50 ?_
    refine a_iload_n 1 rfl dX2_measure_51 ?_
    refine kX2_84 (Nat.le_of_ble_eq_true rfl) (Nat.le_of_ble_eq_true rfl) dX2_measure_52 (s_X2_sizeOf g8 h) (fun r16 M15 g17 h => ?_)
    obtain ⟨g18, h⟩ := h
    refine a_iadd dX2_measure_55 ?_
    refine a_aload_n 3 rfl dX2_measure_56 ?_
    refine a_iload 0 rfl dX2_measure_57 ?_
    refine kX2_84 (Nat.le_of_ble_eq_true rfl) (Nat.le_of_ble_eq_true rfl) dX2_measure_59 (s_X2_sizeOf g10 h) (fun r20 M19 g21 h => ?_)
    obtain ⟨g22, h⟩ := h
    refine a_iadd dX2_measure_62 ?_
    obtain ⟨b23, h⟩ := h
    refine stC_8 dX2_measure_63 b23 g22 ?_
    refine a_aload_n 3 rfl dX2_measure_64 ?_
    refine gfX2_27 dX2_measure_65 ?_
    refine a_iload_n 4 rfl dX2_measure_68 ?_
    refine a_aload_n 3 rfl dX2_measure_69 ?_
    refine a_iload_n 1 rfl dX2_measure_70 ?_
    refine kX2_87 (Nat.le_of_ble_eq_true rfl) (Nat.le_of_ble_eq_true rfl) dX2_measure_71 (s_X2_namesIn g8 h) (fun r25 M24 g26 h => ?_)
    refine a_aload_n 3 rfl dX2_measure_74 ?_
    refine a_iload 0 rfl dX2_measure_75 ?_
    refine kX2_87 (Nat.le_of_ble_eq_true rfl) (Nat.le_of_ble_eq_true rfl) dX2_measure_77 (s_X2_namesIn g10 h) (fun r28 M27 g29 h => ?_)
    refine a_ior dX2_measure_80 ?_
    refine a_iload_n 2 rfl dX2_measure_81 ?_
    refine a_bipush (by decide) dX2_measure_82 ?_
    refine a_icmp_ge 93 g6 (rgk 100 (by decide)) (by decide) dX2_measure_84 (fun c30 => ?_) (fun c30 => ?_)
    · have h := h.1 c30
      refine a_iconst dX2_measure_93 ?_
      refine AW.pick [3, 4, 2, 1, 0] rfl ?_
      exact s_X2_measure_J94 Q M27 x1 (M1 4 x1) (M1 5 x1) (M1 6 x1) x1 (bor r25 r28) 0 e1 g6 g8 g10 e1 (rg_t _) (rgk 0 (by decide)) h
    · have h := h.2 c30
      refine a_iconst dX2_measure_87 ?_
      refine a_iload_n 2 rfl dX2_measure_88 ?_
      refine a_ishl dX2_measure_89 ?_
      refine a_goto 94 (by decide) dX2_measure_90 ?_
      refine AW.pick [3, 4, 2, 1, 0] rfl ?_
      exact s_X2_measure_J94 Q M27 x1 (M1 4 x1) (M1 5 x1) (M1 6 x1) x1 (bor r25 r28) (bshl 1 (M1 4 x1)) e1 g6 g8 g10 e1 (rg_t _) (rg_t _) h
  · have h := h.2 c4
    exact a_vret rfl dX2_measure_8 h
set_option maxRecDepth 100000 in
theorem s_X2_numberOf {l : Launch} {D : va_G} {ad : Nat → Nat} {cA : Nat → ClassId} {M : Mem} {x1 : Int} {x2 : Int} {x3 : Int} {Q : Int → Mem → Prop} (e1 : rg x1) (e2 : rg x2) (e3 : rg x3) (h : w_X2_numberOf M x1 x2 x3 Q) : AM (xC l D ad cA) yX2_numberOf mX2_numberOf [.ref (ad 1), vi x1, vi x2, vi x3] M (qI Q) := by
  refine AM.ofAW (by decide +kernel) rfl (Nat.le_of_ble_eq_true rfl) ?_
  show AW (xC l D ad cA) mX2_numberOf (qI Q) 0 [(0, .ref (ad 1)), (1, vi x1), (2, vi x2), (3, vi x3)] [] M
  refine a_aload_n 0 rfl dX2_numberOf_0 ?_
  refine a_iload_n 1 rfl dX2_numberOf_1 ?_
  refine a_iload_n 2 rfl dX2_numberOf_2 ?_
  refine a_iload_n 3 rfl dX2_numberOf_3 ?_
  refine kX2_66 (Nat.le_of_ble_eq_true rfl) (Nat.le_of_ble_eq_true rfl) dX2_numberOf_4 (s_X2_find e1 e2 e3 h) (fun r2 M1 g3 h => ?_)
  refine a_istore (lv' := [(4, vi r2), (0, .ref (ad 1)), (1, vi x1), (2, vi x2), (3, vi x3)]) (Nat.le_of_ble_eq_true rfl) rfl dX2_numberOf_7 ?_
  refine a_iload 0 rfl dX2_numberOf_9 ?_
  refine a_bipush (by decide) dX2_numberOf_11 ?_
  refine a_icmp_eq 19 g3 (rgk (-9) (by decide)) (by decide) dX2_numberOf_13 (fun c4 => ?_) (fun c4 => ?_)
  · have h := h.1 c4
    refine a_aload_n 1 rfl dX2_numberOf_19 ?_
    refine gfX2_36 dX2_numberOf_20 (fun g5 => ?_)
    refine a_bipush (by decide) dX2_numberOf_23 ?_
    refine a_icmp_lt 31 g5 (rgk 90 (by decide)) (by decide) dX2_numberOf_25 (fun c6 => ?_) (fun c6 => ?_)
    · have h := h.1 c6
      refine a_aload_n 1 rfl dX2_numberOf_31 ?_
      refine a_iload_n 2 rfl dX2_numberOf_32 ?_
      refine a_iload_n 3 rfl dX2_numberOf_33 ?_
      refine a_iload_n 4 rfl dX2_numberOf_34 ?_
      refine kX2_70 (Nat.le_of_ble_eq_true rfl) (Nat.le_of_ble_eq_true rfl) dX2_numberOf_35 (s_X2_hold e1 e2 e3 h) (fun r8 M7 g9 h => ?_)
      refine a_istore (lv' := [(4, vi r8), (0, .ref (ad 1)), (1, vi x1), (2, vi x2), (3, vi x3)]) (Nat.le_of_ble_eq_true rfl) rfl dX2_numberOf_38 ?_
      refine a_aload_n 1 rfl dX2_numberOf_40 ?_
      refine a_aload_n 1 rfl dX2_numberOf_41 ?_
      refine gfX2_40 dX2_numberOf_42 (fun g10 => ?_)
      refine pfX2_36 dX2_numberOf_45 g10 ?_
      refine a_aload_n 1 rfl dX2_numberOf_48 ?_
      refine a_iload 0 rfl dX2_numberOf_49 ?_
      refine kX2_73 (Nat.le_of_ble_eq_true rfl) (Nat.le_of_ble_eq_true rfl) dX2_numberOf_51 (s_X2_measure g9 h) (fun M11 h => ?_)
      refine a_iload 0 rfl dX2_numberOf_54 ?_
      exact a_iret rfl dX2_numberOf_56 g9 h
    · have h := h.2 c6
      refine a_bipush (by decide) dX2_numberOf_28 ?_
      exact a_iret rfl dX2_numberOf_30 (rgk (-4) (by decide)) h
  · have h := h.2 c4
    refine a_iload 0 rfl dX2_numberOf_16 ?_
    exact a_iret rfl dX2_numberOf_18 g3 h
set_option maxRecDepth 100000 in
theorem s_X3_parameter {l : Launch} {D : va_G} {ad : Nat → Nat} {cA : Nat → ClassId} {M : Mem} {x1 : Int} {Q : Int → Mem → Prop} (e1 : rg x1) (h : w_X3_parameter M x1 Q) : AM (xC l D ad cA) yX3_parameter mX3_parameter [.ref (ad 0), vi x1] M (qI Q) := by
  refine AM.ofAW (by decide +kernel) rfl (Nat.le_of_ble_eq_true rfl) ?_
  show AW (xC l D ad cA) mX3_parameter (qI Q) 0 [(0, .ref (ad 0)), (1, vi x1)] [] M
  refine a_iload_n 1 rfl dX3_parameter_0 ?_
  refine a_if_lt 9 e1 (by decide) dX3_parameter_1 (fun c1 => ?_) (fun c1 => ?_)
  · have h := h.1 c1
    refine a_bipush (by decide) dX3_parameter_9 ?_
    exact a_iret rfl dX3_parameter_11 (rgk (-2) (by decide)) h
  · have h := h.2 c1
    refine a_iload_n 1 rfl dX3_parameter_4 ?_
    refine a_iconst dX3_parameter_5 ?_
    refine a_icmp_lt 12 e1 (rgk 2 (by decide)) (by decide) dX3_parameter_6 (fun c2 => ?_) (fun c2 => ?_)
    · have h := h.1 c2
      refine a_aload_n 0 rfl dX3_parameter_12 ?_
      refine gfX3_14 dX3_parameter_13 ?_
      refine a_bipush (by decide) dX3_parameter_16 ?_
      refine a_iload_n 1 rfl dX3_parameter_18 ?_
      obtain ⟨g3, h⟩ := h
      refine a_iadd dX3_parameter_19 ?_
      refine a_bipush (by decide) dX3_parameter_20 ?_
      refine a_bipush (by decide) dX3_parameter_22 ?_
      refine kX3_40 (Nat.le_of_ble_eq_true rfl) (Nat.le_of_ble_eq_true rfl) dX3_parameter_24 (s_X2_numberOf g3 (rgk (-9) (by decide)) (rgk (-9) (by decide)) h) (fun r5 M4 g6 h => ?_)
      exact a_iret rfl dX3_parameter_27 g6 h
    · have h := h.2 c2
      refine a_bipush (by decide) dX3_parameter_9 ?_
      exact a_iret rfl dX3_parameter_11 (rgk (-2) (by decide)) h
set_option maxRecDepth 100000 in
theorem s_X1_arityOf {l : Launch} {D : va_G} {ad : Nat → Nat} {cA : Nat → ClassId} {M : Mem} {x1 : Int} {Q : Int → Mem → Prop} (e1 : rg x1) (h : w_X1_arityOf M x1 Q) : AM (xC l D ad cA) yX1_arityOf mX1_arityOf [.ref (ad 2), vi x1] M (qI Q) := by
  refine AM.ofAW (by decide +kernel) rfl (Nat.le_of_ble_eq_true rfl) ?_
  show AW (xC l D ad cA) mX1_arityOf (qI Q) 0 [(0, .ref (ad 2)), (1, vi x1)] [] M
  refine a_aload_n 0 rfl dX1_arityOf_0 ?_
  refine a_iload_n 1 rfl dX1_arityOf_1 ?_
  refine kX1_45 (Nat.le_of_ble_eq_true rfl) (Nat.le_of_ble_eq_true rfl) dX1_arityOf_2 (s_X1_has e1 h) (fun r2 M1 g3 h => ?_)
  refine a_if_eq 17 g3 (by decide) dX1_arityOf_5 (fun c4 => ?_) (fun c4 => ?_)
  · have h := h.1 c4
    refine a_iconst dX1_arityOf_17 ?_
    exact a_iret rfl dX1_arityOf_18 (rgk 0 (by decide)) h
  · have h := h.2 c4
    refine a_aload_n 0 rfl dX1_arityOf_8 ?_
    refine gfX1_9 dX1_arityOf_9 ?_
    refine a_iload_n 1 rfl dX1_arityOf_12 ?_
    obtain ⟨b5, h⟩ := h
    refine ldC_12 dX1_arityOf_13 b5 (fun g6 => ?_)
    refine a_goto 18 (by decide) dX1_arityOf_14 ?_
    exact a_iret rfl dX1_arityOf_18 g6 h
set_option maxRecDepth 100000 in
theorem s_X3_term_J90 {l : Launch} {D : va_G} {ad : Nat → Nat} {cA : Nat → ClassId} (Q : Int → Mem → Prop) (M : Mem) (x1 : Int) (x2 : Int) (x3 : Int) (e1 : rg x1) (e2 : rg x2) (e3 : rg x3) (h : w_X3_term_J90 Q M x1 x2 x3) : AW (xC l D ad cA) mX3_term (qI Q) 90 [(0, .ref (ad 0)), (1, vi x1), (2, vi x2), (3, vi x3)] [] M := by
  refine a_aload_n 0 rfl dX3_term_90 ?_
  refine gfX3_14 dX3_term_91 ?_
  refine a_iload_n 2 rfl dX3_term_94 ?_
  refine a_iload_n 3 rfl dX3_term_95 ?_
  refine kX3_54 (Nat.le_of_ble_eq_true rfl) (Nat.le_of_ble_eq_true rfl) dX3_term_96 (s_X2_depthAbove e2 e3 h) (fun r2 M1 g3 h => ?_)
  refine a_iconst dX3_term_99 ?_
  refine a_icmp_le 106 g3 (rgk 4 (by decide)) (by decide) dX3_term_100 (fun c4 => ?_) (fun c4 => ?_)
  · have h := h.1 c4
    refine a_aload_n 0 rfl dX3_term_106 ?_
    refine gfX3_14 dX3_term_107 ?_
    refine a_iload_n 1 rfl dX3_term_110 ?_
    refine a_iload_n 2 rfl dX3_term_111 ?_
    refine a_iload_n 3 rfl dX3_term_112 ?_
    refine kX3_40 (Nat.le_of_ble_eq_true rfl) (Nat.le_of_ble_eq_true rfl) dX3_term_113 (s_X2_numberOf e1 e2 e3 h) (fun r6 M5 g7 h => ?_)
    exact a_iret rfl dX3_term_116 g7 h
  · have h := h.2 c4
    refine a_bipush (by decide) dX3_term_103 ?_
    exact a_iret rfl dX3_term_105 (rgk (-3) (by decide)) h
set_option maxRecDepth 100000 in
theorem s_X3_term_J75 {l : Launch} {D : va_G} {ad : Nat → Nat} {cA : Nat → ClassId} (Q : Int → Mem → Prop) (M : Mem) (x1 : Int) (x2 : Int) (x3 : Int) (x4 : Int) (e1 : rg x1) (e2 : rg x2) (e3 : rg x3) (e4 : rg x4) (h : w_X3_term_J75 Q M x1 x2 x3 x4) : AW (xC l D ad cA) mX3_term (qI Q) 75 [(0, .ref (ad 0)), (1, vi x1), (2, vi x2), (3, vi x3), (4, vi x4)] [] M := by
  refine a_iload 4 rfl dX3_term_75 ?_
  refine a_iconst dX3_term_77 ?_
  refine a_icmp_ge 90 e4 (rgk 2 (by decide)) (by decide) dX3_term_78 (fun c1 => ?_) (fun c1 => ?_)
  · have h := h.1 c1
    refine AW.pick [0, 1, 2, 3] rfl ?_
    exact s_X3_term_J90 Q M x1 x2 x3 e1 e2 e3 h
  · have h := h.2 c1
    refine a_iload_n 3 rfl dX3_term_81 ?_
    refine a_bipush (by decide) dX3_term_82 ?_
    refine a_icmp_eq 90 e3 (rgk (-9) (by decide)) (by decide) dX3_term_84 (fun c2 => ?_) (fun c2 => ?_)
    · have h := h.1 c2
      refine AW.pick [0, 1, 2, 3] rfl ?_
      exact s_X3_term_J90 Q M x1 x2 x3 e1 e2 e3 h
    · have h := h.2 c2
      refine a_bipush (by decide) dX3_term_87 ?_
      exact a_iret rfl dX3_term_89 (rgk (-2) (by decide)) h
set_option maxRecDepth 100000 in
theorem s_X3_term_J60 {l : Launch} {D : va_G} {ad : Nat → Nat} {cA : Nat → ClassId} (Q : Int → Mem → Prop) (M : Mem) (x1 : Int) (x2 : Int) (x3 : Int) (x4 : Int) (e1 : rg x1) (e2 : rg x2) (e3 : rg x3) (e4 : rg x4) (h : w_X3_term_J60 Q M x1 x2 x3 x4) : AW (xC l D ad cA) mX3_term (qI Q) 60 [(0, .ref (ad 0)), (1, vi x1), (2, vi x2), (3, vi x3), (4, vi x4)] [] M := by
  refine a_iload 4 rfl dX3_term_60 ?_
  refine a_iconst dX3_term_62 ?_
  refine a_icmp_ge 75 e4 (rgk 1 (by decide)) (by decide) dX3_term_63 (fun c1 => ?_) (fun c1 => ?_)
  · have h := h.1 c1
    refine AW.pick [0, 1, 2, 3, 4] rfl ?_
    exact s_X3_term_J75 Q M x1 x2 x3 x4 e1 e2 e3 e4 h
  · have h := h.2 c1
    refine a_iload_n 2 rfl dX3_term_66 ?_
    refine a_bipush (by decide) dX3_term_67 ?_
    refine a_icmp_eq 75 e2 (rgk (-9) (by decide)) (by decide) dX3_term_69 (fun c2 => ?_) (fun c2 => ?_)
    · have h := h.1 c2
      refine AW.pick [0, 1, 2, 3, 4] rfl ?_
      exact s_X3_term_J75 Q M x1 x2 x3 x4 e1 e2 e3 e4 h
    · have h := h.2 c2
      refine a_bipush (by decide) dX3_term_72 ?_
      exact a_iret rfl dX3_term_74 (rgk (-2) (by decide)) h
set_option maxRecDepth 100000 in
theorem s_X3_term_J41 {l : Launch} {D : va_G} {ad : Nat → Nat} {cA : Nat → ClassId} (Q : Int → Mem → Prop) (M : Mem) (x1 : Int) (x2 : Int) (x3 : Int) (x4 : Int) (e1 : rg x1) (e2 : rg x2) (e3 : rg x3) (e4 : rg x4) (h : w_X3_term_J41 Q M x1 x2 x3 x4) : AW (xC l D ad cA) mX3_term (qI Q) 41 [(0, .ref (ad 0)), (1, vi x1), (2, vi x2), (3, vi x3), (4, vi x4)] [] M := by
  refine a_iload 4 rfl dX3_term_41 ?_
  refine a_iconst dX3_term_43 ?_
  refine a_icmp_le 60 e4 (rgk 1 (by decide)) (by decide) dX3_term_44 (fun c1 => ?_) (fun c1 => ?_)
  · have h := h.1 c1
    refine AW.pick [0, 1, 2, 3, 4] rfl ?_
    exact s_X3_term_J60 Q M x1 x2 x3 x4 e1 e2 e3 e4 h
  · have h := h.2 c1
    refine a_aload_n 0 rfl dX3_term_47 ?_
    refine gfX3_14 dX3_term_48 ?_
    refine a_iload_n 3 rfl dX3_term_51 ?_
    refine kX3_51 (Nat.le_of_ble_eq_true rfl) (Nat.le_of_ble_eq_true rfl) dX3_term_52 (s_X2_wasMade e3 h) (fun r3 M2 g4 h => ?_)
    refine a_if_ne 60 g4 (by decide) dX3_term_55 (fun c5 => ?_) (fun c5 => ?_)
    · have h := h.1 c5
      refine AW.pick [0, 1, 2, 3, 4] rfl ?_
      exact s_X3_term_J60 Q M2 x1 x2 x3 x4 e1 e2 e3 e4 h
    · have h := h.2 c5
      refine a_iconst dX3_term_58 ?_
      exact a_iret rfl dX3_term_59 (rgk (-1) (by decide)) h
set_option maxRecDepth 100000 in
theorem s_X3_term {l : Launch} {D : va_G} {ad : Nat → Nat} {cA : Nat → ClassId} {M : Mem} {x1 : Int} {x2 : Int} {x3 : Int} {Q : Int → Mem → Prop} (e1 : rg x1) (e2 : rg x2) (e3 : rg x3) (h : w_X3_term M x1 x2 x3 Q) : AM (xC l D ad cA) yX3_term mX3_term [.ref (ad 0), vi x1, vi x2, vi x3] M (qI Q) := by
  refine AM.ofAW (by decide +kernel) rfl (Nat.le_of_ble_eq_true rfl) ?_
  show AW (xC l D ad cA) mX3_term (qI Q) 0 [(0, .ref (ad 0)), (1, vi x1), (2, vi x2), (3, vi x3)] [] M
  refine a_aload_n 0 rfl dX3_term_0 ?_
  refine gfX3_23 dX3_term_1 ?_
  refine a_iload_n 1 rfl dX3_term_4 ?_
  refine kX3_44 (Nat.le_of_ble_eq_true rfl) (Nat.le_of_ble_eq_true rfl) dX3_term_5 (s_X1_has e1 h) (fun r2 M1 g3 h => ?_)
  refine a_if_ne 13 g3 (by decide) dX3_term_8 (fun c4 => ?_) (fun c4 => ?_)
  · have h := h.1 c4
    refine a_aload_n 0 rfl dX3_term_13 ?_
    refine gfX3_23 dX3_term_14 ?_
    refine a_iload_n 1 rfl dX3_term_17 ?_
    refine kX3_48 (Nat.le_of_ble_eq_true rfl) (Nat.le_of_ble_eq_true rfl) dX3_term_18 (s_X1_arityOf e1 h) (fun r6 M5 g7 h => ?_)
    refine a_istore (lv' := [(4, vi r6), (0, .ref (ad 0)), (1, vi x1), (2, vi x2), (3, vi x3)]) (Nat.le_of_ble_eq_true rfl) rfl dX3_term_21 ?_
    refine a_iload 0 rfl dX3_term_23 ?_
    refine a_if_le 41 g7 (by decide) dX3_term_25 (fun c8 => ?_) (fun c8 => ?_)
    · have h := h.1 c8
      refine AW.pick [1, 2, 3, 4, 0] rfl ?_
      exact s_X3_term_J41 Q M5 x1 x2 x3 r6 e1 e2 e3 g7 h
    · have h := h.2 c8
      refine a_aload_n 1 rfl dX3_term_28 ?_
      refine gfX3_14 dX3_term_29 ?_
      refine a_iload_n 3 rfl dX3_term_32 ?_
      refine kX3_51 (Nat.le_of_ble_eq_true rfl) (Nat.le_of_ble_eq_true rfl) dX3_term_33 (s_X2_wasMade e2 h) (fun r10 M9 g11 h => ?_)
      refine a_if_ne 41 g11 (by decide) dX3_term_36 (fun c12 => ?_) (fun c12 => ?_)
      · have h := h.1 c12
        refine AW.pick [1, 2, 3, 4, 0] rfl ?_
        exact s_X3_term_J41 Q M9 x1 x2 x3 r6 e1 e2 e3 g7 h
      · have h := h.2 c12
        refine a_iconst dX3_term_39 ?_
        exact a_iret rfl dX3_term_40 (rgk (-1) (by decide)) h
  · have h := h.2 c4
    refine a_iconst dX3_term_11 ?_
    exact a_iret rfl dX3_term_12 (rgk (-1) (by decide)) h
set_option maxRecDepth 100000 in
theorem s_X1_redefine {l : Launch} {D : va_G} {ad : Nat → Nat} {cA : Nat → ClassId} {M : Mem} {x1 : Int} {x2 : Int} {Q : Int → Mem → Prop} (e1 : rg x1) (e2 : rg x2) (h : w_X1_redefine M x1 x2 Q) : AM (xC l D ad cA) yX1_redefine mX1_redefine [.ref (ad 2), vi x1, vi x2] M (qI Q) := by
  refine AM.ofAW (by decide +kernel) rfl (Nat.le_of_ble_eq_true rfl) ?_
  show AW (xC l D ad cA) mX1_redefine (qI Q) 0 [(0, .ref (ad 2)), (1, vi x1), (2, vi x2)] [] M
  refine a_aload_n 0 rfl dX1_redefine_0 ?_
  refine a_iload_n 1 rfl dX1_redefine_1 ?_
  refine kX1_45 (Nat.le_of_ble_eq_true rfl) (Nat.le_of_ble_eq_true rfl) dX1_redefine_2 (s_X1_has e1 h) (fun r2 M1 g3 h => ?_)
  refine a_if_ne 10 g3 (by decide) dX1_redefine_5 (fun c4 => ?_) (fun c4 => ?_)
  · have h := h.1 c4
    refine a_aload_n 0 rfl dX1_redefine_10 ?_
    refine gfX1_15 dX1_redefine_11 ?_
    refine a_iload_n 1 rfl dX1_redefine_14 ?_
    obtain ⟨b5, h⟩ := h
    refine ldC_13 dX1_redefine_15 b5 (fun g6 => ?_)
    refine a_istore_n (lv' := [(3, vi (M1 13 x1)), (0, .ref (ad 2)), (1, vi x1), (2, vi x2)]) (Nat.le_of_ble_eq_true rfl) rfl dX1_redefine_16 ?_
    refine a_aload_n 1 rfl dX1_redefine_17 ?_
    refine gfX1_15 dX1_redefine_18 ?_
    refine a_iload_n 2 rfl dX1_redefine_21 ?_
    refine a_iload_n 3 rfl dX1_redefine_22 ?_
    obtain ⟨b7, h⟩ := h
    refine stC_13 dX1_redefine_23 b7 e2 ?_
    refine a_aload_n 1 rfl dX1_redefine_24 ?_
    refine a_iload_n 2 rfl dX1_redefine_25 ?_
    refine kX1_55 (Nat.le_of_ble_eq_true rfl) (Nat.le_of_ble_eq_true rfl) dX1_redefine_26 (s_X1_settleFrom e1 h) (fun M8 h => ?_)
    refine a_iload_n 0 rfl dX1_redefine_29 ?_
    exact a_iret rfl dX1_redefine_30 g6 h
  · have h := h.2 c4
    refine a_iconst dX1_redefine_8 ?_
    exact a_iret rfl dX1_redefine_9 (rgk (-1) (by decide)) h
set_option maxRecDepth 100000 in
theorem s_X1_mayStandFor_L26 {l : Launch} {D : va_G} {ad : Nat → Nat} {cA : Nat → ClassId} (Q : Int → Mem → Prop) : ∀ (n : Nat) (M : Mem) (x2 : Int) (x4 : Int), rg x2 → rg x4 → w_X1_mayStandFor_L26 Q n M x2 x4 → AW (xC l D ad cA) mX1_mayStandFor (qI Q) 26 [(0, .ref (ad 2)), (2, vi x2), (4, vi x4)] [] M := by
  intro n
  induction n with
  | zero => intro M x2 x4 e2 e4 h; exact absurd h id
  | succ n ih =>
    intro M x2 x4 e2 e4 h
    refine a_iload 2 rfl dX1_mayStandFor_26 ?_
    refine a_iconst dX1_mayStandFor_28 ?_
    refine a_icmp_ge 53 e4 (rgk 2 (by decide)) (by decide) dX1_mayStandFor_29 (fun c1 => ?_) (fun c1 => ?_)
    · have h := h.1 c1
      refine a_iconst dX1_mayStandFor_53 ?_
      exact a_zret rfl dX1_mayStandFor_54 (Or.inr rfl) h
    · have h := h.2 c1
      refine a_aload_n 0 rfl dX1_mayStandFor_32 ?_
      refine gfX1_33 dX1_mayStandFor_33 ?_
      refine a_iload_n 1 rfl dX1_mayStandFor_36 ?_
      refine a_iload 2 rfl dX1_mayStandFor_37 ?_
      refine kX1_67 (Nat.le_of_ble_eq_true rfl) (Nat.le_of_ble_eq_true rfl) dX1_mayStandFor_39 (s_X2_timesOfParameter e2 e4 h) (fun r3 M2 g4 h => ?_)
      refine a_if_eq 47 g4 (by decide) dX1_mayStandFor_42 (fun c5 => ?_) (fun c5 => ?_)
      · have h := h.1 c5
        obtain ⟨g6, h⟩ := h
        refine a_iinc (lv' := [(4, vi (x4 + 1)), (0, .ref (ad 2)), (2, vi x2)]) 2 rfl (Nat.le_of_ble_eq_true rfl) rfl dX1_mayStandFor_47 ?_
        refine a_goto 26 (by decide) dX1_mayStandFor_50 ?_
        refine AW.pick [1, 2, 0] rfl ?_
        exact ih M2 x2 (x4 + 1) e2 g6 h
      · have h := h.2 c5
        refine a_iconst dX1_mayStandFor_45 ?_
        exact a_zret rfl dX1_mayStandFor_46 (Or.inl rfl) h
set_option maxRecDepth 100000 in
theorem s_X1_mayStandFor {l : Launch} {D : va_G} {ad : Nat → Nat} {cA : Nat → ClassId} {M : Mem} {x1 : Int} {x2 : Int} {Q : Int → Mem → Prop} (e1 : rg x1) (e2 : rg x2) (h : w_X1_mayStandFor M x1 x2 Q) : AM (xC l D ad cA) yX1_mayStandFor mX1_mayStandFor [.ref (ad 2), vi x1, vi x2] M (qI Q) := by
  refine AM.ofAW (by decide +kernel) rfl (Nat.le_of_ble_eq_true rfl) ?_
  show AW (xC l D ad cA) mX1_mayStandFor (qI Q) 0 [(0, .ref (ad 2)), (1, vi x1), (2, vi x2)] [] M
  refine a_iconst dX1_mayStandFor_0 ?_
  refine a_iload_n 1 rfl dX1_mayStandFor_1 ?_
  refine a_ishl dX1_mayStandFor_2 ?_
  refine a_istore_n (lv' := [(3, vi (bshl (-1) x1)), (0, .ref (ad 2)), (1, vi x1), (2, vi x2)]) (Nat.le_of_ble_eq_true rfl) rfl dX1_mayStandFor_3 ?_
  refine a_aload_n 1 rfl dX1_mayStandFor_4 ?_
  refine gfX1_33 dX1_mayStandFor_5 ?_
  refine a_iload_n 3 rfl dX1_mayStandFor_8 ?_
  refine kX1_59 (Nat.le_of_ble_eq_true rfl) (Nat.le_of_ble_eq_true rfl) dX1_mayStandFor_9 (s_X2_namesIn e2 h) (fun r2 M1 g3 h => ?_)
  refine a_iload_n 0 rfl dX1_mayStandFor_12 ?_
  refine a_iand dX1_mayStandFor_13 ?_
  refine a_if_eq 19 (rg_t _) (by decide) dX1_mayStandFor_14 (fun c4 => ?_) (fun c4 => ?_)
  · have h := h.1 c4
    refine a_aload_n 1 rfl dX1_mayStandFor_19 ?_
    refine a_iload_n 2 rfl dX1_mayStandFor_20 ?_
    refine kX1_64 (Nat.le_of_ble_eq_true rfl) (Nat.le_of_ble_eq_true rfl) dX1_mayStandFor_21 (s_X1_arityOf e1 h) (fun r6 M5 g7 h => ?_)
    refine a_istore (lv' := [(4, vi r6), (3, vi (bshl (-1) x1)), (0, .ref (ad 2)), (1, vi x1), (2, vi x2)]) (Nat.le_of_ble_eq_true rfl) rfl dX1_mayStandFor_24 ?_
    obtain ⟨n26, h⟩ := h
    refine AW.pick [2, 4, 0] rfl ?_
    exact s_X1_mayStandFor_L26 Q n26 M5 x2 r6 e2 g7 h
  · have h := h.2 c4
    refine a_iconst dX1_mayStandFor_17 ?_
    exact a_zret rfl dX1_mayStandFor_18 (Or.inl rfl) h
set_option maxRecDepth 100000 in
theorem s_X3_define {l : Launch} {D : va_G} {ad : Nat → Nat} {cA : Nat → ClassId} {M : Mem} {x1 : Int} {x2 : Int} {Q : Int → Mem → Prop} (e1 : rg x1) (e2 : rg x2) (h : w_X3_define M x1 x2 Q) : AM (xC l D ad cA) yX3_define mX3_define [.ref (ad 0), vi x1, vi x2] M (qI Q) := by
  refine AM.ofAW (by decide +kernel) rfl (Nat.le_of_ble_eq_true rfl) ?_
  show AW (xC l D ad cA) mX3_define (qI Q) 0 [(0, .ref (ad 0)), (1, vi x1), (2, vi x2)] [] M
  refine a_aload_n 0 rfl dX3_define_0 ?_
  refine gfX3_23 dX3_define_1 ?_
  refine a_iload_n 1 rfl dX3_define_4 ?_
  refine kX3_44 (Nat.le_of_ble_eq_true rfl) (Nat.le_of_ble_eq_true rfl) dX3_define_5 (s_X1_has e1 h) (fun r2 M1 g3 h => ?_)
  refine a_if_ne 13 g3 (by decide) dX3_define_8 (fun c4 => ?_) (fun c4 => ?_)
  · have h := h.1 c4
    refine a_iload_n 2 rfl dX3_define_13 ?_
    refine a_bipush (by decide) dX3_define_14 ?_
    refine a_icmp_ne 30 e2 (rgk (-9) (by decide)) (by decide) dX3_define_16 (fun c5 => ?_) (fun c5 => ?_)
    · have h := h.1 c5
      refine a_aload_n 0 rfl dX3_define_30 ?_
      refine gfX3_14 dX3_define_31 ?_
      refine a_iload_n 2 rfl dX3_define_34 ?_
      refine kX3_51 (Nat.le_of_ble_eq_true rfl) (Nat.le_of_ble_eq_true rfl) dX3_define_35 (s_X2_wasMade e2 h) (fun r7 M6 g8 h => ?_)
      refine a_if_ne 43 g8 (by decide) dX3_define_38 (fun c9 => ?_) (fun c9 => ?_)
      · have h := h.1 c9
        refine a_aload_n 0 rfl dX3_define_43 ?_
        refine gfX3_23 dX3_define_44 ?_
        refine a_iload_n 1 rfl dX3_define_47 ?_
        refine a_iload_n 2 rfl dX3_define_48 ?_
        refine kX3_61 (Nat.le_of_ble_eq_true rfl) (Nat.le_of_ble_eq_true rfl) dX3_define_49 (s_X1_mayStandFor e1 e2 h) (fun r11 M10 g12 h => ?_)
        refine a_if_ne 58 g12 (by decide) dX3_define_52 (fun c13 => ?_) (fun c13 => ?_)
        · have h := h.1 c13
          refine a_aload_n 0 rfl dX3_define_58 ?_
          refine gfX3_23 dX3_define_59 ?_
          refine a_iload_n 1 rfl dX3_define_62 ?_
          refine a_iload_n 2 rfl dX3_define_63 ?_
          refine kX3_58 (Nat.le_of_ble_eq_true rfl) (Nat.le_of_ble_eq_true rfl) dX3_define_64 (s_X1_redefine e1 e2 h) (fun r15 M14 g16 h => ?_)
          exact a_iret rfl dX3_define_67 g16 h
        · have h := h.2 c13
          refine a_bipush (by decide) dX3_define_55 ?_
          exact a_iret rfl dX3_define_57 (rgk (-3) (by decide)) h
      · have h := h.2 c9
        refine a_iconst dX3_define_41 ?_
        exact a_iret rfl dX3_define_42 (rgk (-1) (by decide)) h
    · have h := h.2 c5
      refine a_aload_n 0 rfl dX3_define_19 ?_
      refine gfX3_23 dX3_define_20 ?_
      refine a_iload_n 1 rfl dX3_define_23 ?_
      refine a_bipush (by decide) dX3_define_24 ?_
      refine kX3_58 (Nat.le_of_ble_eq_true rfl) (Nat.le_of_ble_eq_true rfl) dX3_define_26 (s_X1_redefine e1 (rgk (-9) (by decide)) h) (fun r18 M17 g19 h => ?_)
      exact a_iret rfl dX3_define_29 g19 h
  · have h := h.2 c4
    refine a_iconst dX3_define_11 ?_
    exact a_iret rfl dX3_define_12 (rgk (-1) (by decide)) h
set_option maxRecDepth 100000 in
theorem s_X1_cover {l : Launch} {D : va_G} {ad : Nat → Nat} {cA : Nat → ClassId} {M : Mem} {x1 : Int} {x2 : Int} {Q : Int → Mem → Prop} (e1 : rg x1) (e2 : rg x2) (h : w_X1_cover M x1 x2 Q) : AM (xC l D ad cA) yX1_cover mX1_cover [.ref (ad 2), vi x1, vi x2] M (qI Q) := by
  refine AM.ofAW (by decide +kernel) rfl (Nat.le_of_ble_eq_true rfl) ?_
  show AW (xC l D ad cA) mX1_cover (qI Q) 0 [(0, .ref (ad 2)), (1, vi x1), (2, vi x2)] [] M
  refine a_aload_n 0 rfl dX1_cover_0 ?_
  refine a_iload_n 1 rfl dX1_cover_1 ?_
  refine kX1_45 (Nat.le_of_ble_eq_true rfl) (Nat.le_of_ble_eq_true rfl) dX1_cover_2 (s_X1_has e1 h) (fun r2 M1 g3 h => ?_)
  refine a_if_eq 18 g3 (by decide) dX1_cover_5 (fun c4 => ?_) (fun c4 => ?_)
  · have h := h.1 c4
    refine a_iconst dX1_cover_18 ?_
    exact a_zret rfl dX1_cover_19 (Or.inl rfl) h
  · have h := h.2 c4
    refine a_aload_n 0 rfl dX1_cover_8 ?_
    refine gfX1_18 dX1_cover_9 ?_
    refine a_iload_n 1 rfl dX1_cover_12 ?_
    obtain ⟨b5, h⟩ := h
    refine ldC_14 dX1_cover_13 b5 (fun g6 => ?_)
    refine a_iload_n 2 rfl dX1_cover_14 ?_
    refine a_icmp_ne 20 g6 e2 (by decide) dX1_cover_15 (fun c7 => ?_) (fun c7 => ?_)
    · have h := h.1 c7
      refine a_aload_n 0 rfl dX1_cover_20 ?_
      refine gfX1_18 dX1_cover_21 ?_
      refine a_iload_n 1 rfl dX1_cover_24 ?_
      refine a_iload_n 2 rfl dX1_cover_25 ?_
      obtain ⟨z9, h⟩ := h
      obtain ⟨b8, h⟩ := h
      refine stC_14 dX1_cover_26 b8 z9 ?_
      refine a_aload_n 0 rfl dX1_cover_27 ?_
      refine a_iload_n 1 rfl dX1_cover_28 ?_
      refine kX1_55 (Nat.le_of_ble_eq_true rfl) (Nat.le_of_ble_eq_true rfl) dX1_cover_29 (s_X1_settleFrom e1 h) (fun M10 h => ?_)
      refine a_iconst dX1_cover_32 ?_
      exact a_zret rfl dX1_cover_33 (Or.inr rfl) h
    · have h := h.2 c7
      refine a_iconst dX1_cover_18 ?_
      exact a_zret rfl dX1_cover_19 (Or.inl rfl) h
set_option maxRecDepth 100000 in
theorem s_X3_opaque {l : Launch} {D : va_G} {ad : Nat → Nat} {cA : Nat → ClassId} {M : Mem} {x1 : Int} {x2 : Int} {Q : Int → Mem → Prop} (e1 : rg x1) (e2 : rg x2) (h : w_X3_opaque M x1 x2 Q) : AM (xC l D ad cA) yX3_opaque mX3_opaque [.ref (ad 0), vi x1, vi x2] M (qI Q) := by
  refine AM.ofAW (by decide +kernel) rfl (Nat.le_of_ble_eq_true rfl) ?_
  show AW (xC l D ad cA) mX3_opaque (qI Q) 0 [(0, .ref (ad 0)), (1, vi x1), (2, vi x2)] [] M
  refine a_aload_n 0 rfl dX3_opaque_0 ?_
  refine gfX3_23 dX3_opaque_1 ?_
  refine a_iload_n 1 rfl dX3_opaque_4 ?_
  refine kX3_44 (Nat.le_of_ble_eq_true rfl) (Nat.le_of_ble_eq_true rfl) dX3_opaque_5 (s_X1_has e1 h) (fun r2 M1 g3 h => ?_)
  refine a_if_ne 13 g3 (by decide) dX3_opaque_8 (fun c4 => ?_) (fun c4 => ?_)
  · have h := h.1 c4
    refine a_aload_n 0 rfl dX3_opaque_13 ?_
    refine gfX3_23 dX3_opaque_14 ?_
    refine a_iload_n 1 rfl dX3_opaque_17 ?_
    refine a_iload_n 2 rfl dX3_opaque_18 ?_
    refine kX3_65 (Nat.le_of_ble_eq_true rfl) (Nat.le_of_ble_eq_true rfl) dX3_opaque_19 (s_X1_cover e1 e2 h) (fun r6 M5 g7 h => ?_)
    refine a_if_eq 29 g7 (by decide) dX3_opaque_22 (fun c8 => ?_) (fun c8 => ?_)
    · have h := h.1 c8
      refine a_iconst dX3_opaque_29 ?_
      exact a_iret rfl dX3_opaque_30 (rgk 0 (by decide)) h
    · have h := h.2 c8
      refine a_iconst dX3_opaque_25 ?_
      refine a_goto 30 (by decide) dX3_opaque_26 ?_
      exact a_iret rfl dX3_opaque_30 (rgk 1 (by decide)) h
  · have h := h.2 c4
    refine a_iconst dX3_opaque_11 ?_
    exact a_iret rfl dX3_opaque_12 (rgk (-1) (by decide)) h
set_option maxRecDepth 100000 in
theorem s_X1_heightOf {l : Launch} {D : va_G} {ad : Nat → Nat} {cA : Nat → ClassId} {M : Mem} {x1 : Int} {Q : Int → Mem → Prop} (e1 : rg x1) (h : w_X1_heightOf M x1 Q) : AM (xC l D ad cA) yX1_heightOf mX1_heightOf [.ref (ad 2), vi x1] M (qI Q) := by
  refine AM.ofAW (by decide +kernel) rfl (Nat.le_of_ble_eq_true rfl) ?_
  show AW (xC l D ad cA) mX1_heightOf (qI Q) 0 [(0, .ref (ad 2)), (1, vi x1)] [] M
  refine a_aload_n 0 rfl dX1_heightOf_0 ?_
  refine a_iload_n 1 rfl dX1_heightOf_1 ?_
  refine kX1_45 (Nat.le_of_ble_eq_true rfl) (Nat.le_of_ble_eq_true rfl) dX1_heightOf_2 (s_X1_has e1 h) (fun r2 M1 g3 h => ?_)
  refine a_if_eq 17 g3 (by decide) dX1_heightOf_5 (fun c4 => ?_) (fun c4 => ?_)
  · have h := h.1 c4
    refine a_iconst dX1_heightOf_17 ?_
    exact a_iret rfl dX1_heightOf_18 (rgk 0 (by decide)) h
  · have h := h.2 c4
    refine a_aload_n 0 rfl dX1_heightOf_8 ?_
    refine gfX1_22 dX1_heightOf_9 ?_
    refine a_iload_n 1 rfl dX1_heightOf_12 ?_
    obtain ⟨b5, h⟩ := h
    refine ldC_15 dX1_heightOf_13 b5 (fun g6 => ?_)
    refine a_goto 18 (by decide) dX1_heightOf_14 ?_
    exact a_iret rfl dX1_heightOf_18 g6 h
set_option maxRecDepth 100000 in
theorem s_X3_ofName {l : Launch} {D : va_G} {ad : Nat → Nat} {cA : Nat → ClassId} {M : Mem} {x1 : Int} {x2 : Int} {Q : Int → Mem → Prop} (e1 : rg x1) (e2 : rg x2) (h : w_X3_ofName M x1 x2 Q) : AM (xC l D ad cA) yX3_ofName mX3_ofName [.ref (ad 0), vi x1, vi x2] M (qI Q) := by
  refine AM.ofAW (by decide +kernel) rfl (Nat.le_of_ble_eq_true rfl) ?_
  show AW (xC l D ad cA) mX3_ofName (qI Q) 0 [(0, .ref (ad 0)), (1, vi x1), (2, vi x2)] [] M
  refine a_aload_n 0 rfl dX3_ofName_0 ?_
  refine gfX3_23 dX3_ofName_1 ?_
  refine a_iload_n 1 rfl dX3_ofName_4 ?_
  refine kX3_44 (Nat.le_of_ble_eq_true rfl) (Nat.le_of_ble_eq_true rfl) dX3_ofName_5 (s_X1_has e1 h) (fun r2 M1 g3 h => ?_)
  refine a_if_ne 13 g3 (by decide) dX3_ofName_8 (fun c4 => ?_) (fun c4 => ?_)
  · have h := h.1 c4
    refine a_iload_n 2 rfl dX3_ofName_13 ?_
    have c5 : (x2 < 0 ∨ 3 < x2) ∨ x2 = 0 ∨ x2 = 1 ∨ x2 = 2 ∨ x2 = 3 := by omega
    rcases c5 with c5 | c5 | c5 | c5 | c5
    · have h := h.1 c5
      refine a_tsOut 88 e2 (by decide) dX3_ofName_14 c5 ?_
      refine a_bipush (by decide) dX3_ofName_88 ?_
      exact a_iret rfl dX3_ofName_90 (rgk (-2) (by decide)) h
    · have h := h.2.1 c5
      refine a_tsIn (b := 0) (off := 30) 44 e2 (by decide) dX3_ofName_14 c5 (by decide) (by decide) rfl ?_
      refine a_aload_n 0 rfl dX3_ofName_44 ?_
      refine gfX3_23 dX3_ofName_45 ?_
      refine a_iload_n 1 rfl dX3_ofName_48 ?_
      refine kX3_48 (Nat.le_of_ble_eq_true rfl) (Nat.le_of_ble_eq_true rfl) dX3_ofName_49 (s_X1_arityOf e1 h) (fun r7 M6 g8 h => ?_)
      exact a_iret rfl dX3_ofName_52 g8 h
    · have h := h.2.2.1 c5
      refine a_tsIn (b := 1) (off := 39) 53 e2 (by decide) dX3_ofName_14 c5 (by decide) (by decide) rfl ?_
      refine a_aload_n 0 rfl dX3_ofName_53 ?_
      refine gfX3_23 dX3_ofName_54 ?_
      refine a_iload_n 1 rfl dX3_ofName_57 ?_
      refine kX3_69 (Nat.le_of_ble_eq_true rfl) (Nat.le_of_ble_eq_true rfl) dX3_ofName_58 (s_X1_definitionOf e1 h) (fun r10 M9 g11 h => ?_)
      exact a_iret rfl dX3_ofName_61 g11 h
    · have h := h.2.2.2.1 c5
      refine a_tsIn (b := 2) (off := 48) 62 e2 (by decide) dX3_ofName_14 c5 (by decide) (by decide) rfl ?_
      refine a_aload_n 0 rfl dX3_ofName_62 ?_
      refine gfX3_23 dX3_ofName_63 ?_
      refine a_iload_n 1 rfl dX3_ofName_66 ?_
      refine kX3_72 (Nat.le_of_ble_eq_true rfl) (Nat.le_of_ble_eq_true rfl) dX3_ofName_67 (s_X1_isOpaque e1 h) (fun r13 M12 g14 h => ?_)
      refine a_if_eq 77 g14 (by decide) dX3_ofName_70 (fun c15 => ?_) (fun c15 => ?_)
      · have h := h.1 c15
        refine a_iconst dX3_ofName_77 ?_
        exact a_iret rfl dX3_ofName_78 (rgk 0 (by decide)) h
      · have h := h.2 c15
        refine a_iconst dX3_ofName_73 ?_
        refine a_goto 78 (by decide) dX3_ofName_74 ?_
        exact a_iret rfl dX3_ofName_78 (rgk 1 (by decide)) h
    · have h := h.2.2.2.2 c5
      refine a_tsIn (b := 3) (off := 65) 79 e2 (by decide) dX3_ofName_14 c5 (by decide) (by decide) rfl ?_
      refine a_aload_n 0 rfl dX3_ofName_79 ?_
      refine gfX3_23 dX3_ofName_80 ?_
      refine a_iload_n 1 rfl dX3_ofName_83 ?_
      refine kX3_75 (Nat.le_of_ble_eq_true rfl) (Nat.le_of_ble_eq_true rfl) dX3_ofName_84 (s_X1_heightOf e1 h) (fun r17 M16 g18 h => ?_)
      exact a_iret rfl dX3_ofName_87 g18 h
  · have h := h.2 c4
    refine a_iconst dX3_ofName_11 ?_
    exact a_iret rfl dX3_ofName_12 (rgk (-1) (by decide)) h
set_option maxRecDepth 100000 in
theorem s_X2_isClosed {l : Launch} {D : va_G} {ad : Nat → Nat} {cA : Nat → ClassId} {M : Mem} {x1 : Int} {Q : Int → Mem → Prop} (e1 : rg x1) (h : w_X2_isClosed M x1 Q) : AM (xC l D ad cA) yX2_isClosed mX2_isClosed [.ref (ad 1), vi x1] M (qI Q) := by
  refine AM.ofAW (by decide +kernel) rfl (Nat.le_of_ble_eq_true rfl) ?_
  show AW (xC l D ad cA) mX2_isClosed (qI Q) 0 [(0, .ref (ad 1)), (1, vi x1)] [] M
  refine a_aload_n 0 rfl dX2_isClosed_0 ?_
  refine a_iload_n 1 rfl dX2_isClosed_1 ?_
  refine a_iconst dX2_isClosed_2 ?_
  refine kX2_63 (Nat.le_of_ble_eq_true rfl) (Nat.le_of_ble_eq_true rfl) dX2_isClosed_3 (s_X2_timesOfParameter e1 (rgk 0 (by decide)) h) (fun r2 M1 g3 h => ?_)
  refine a_if_ne 22 g3 (by decide) dX2_isClosed_6 (fun c4 => ?_) (fun c4 => ?_)
  · have h := h.1 c4
    refine a_iconst dX2_isClosed_22 ?_
    exact a_zret rfl dX2_isClosed_23 (Or.inl rfl) h
  · have h := h.2 c4
    refine a_aload_n 0 rfl dX2_isClosed_9 ?_
    refine a_iload_n 1 rfl dX2_isClosed_10 ?_
    refine a_iconst dX2_isClosed_11 ?_
    refine kX2_63 (Nat.le_of_ble_eq_true rfl) (Nat.le_of_ble_eq_true rfl) dX2_isClosed_12 (s_X2_timesOfParameter e1 (rgk 1 (by decide)) h) (fun r6 M5 g7 h => ?_)
    refine a_if_ne 22 g7 (by decide) dX2_isClosed_15 (fun c8 => ?_) (fun c8 => ?_)
    · have h := h.1 c8
      refine a_iconst dX2_isClosed_22 ?_
      exact a_zret rfl dX2_isClosed_23 (Or.inl rfl) h
    · have h := h.2 c8
      refine a_iconst dX2_isClosed_18 ?_
      refine a_goto 23 (by decide) dX2_isClosed_19 ?_
      exact a_zret rfl dX2_isClosed_23 (Or.inr rfl) h
set_option maxRecDepth 100000 in
theorem s_X3_ofTerm {l : Launch} {D : va_G} {ad : Nat → Nat} {cA : Nat → ClassId} {M : Mem} {x1 : Int} {x2 : Int} {Q : Int → Mem → Prop} (e1 : rg x1) (e2 : rg x2) (h : w_X3_ofTerm M x1 x2 Q) : AM (xC l D ad cA) yX3_ofTerm mX3_ofTerm [.ref (ad 0), vi x1, vi x2] M (qI Q) := by
  refine AM.ofAW (by decide +kernel) rfl (Nat.le_of_ble_eq_true rfl) ?_
  show AW (xC l D ad cA) mX3_ofTerm (qI Q) 0 [(0, .ref (ad 0)), (1, vi x1), (2, vi x2)] [] M
  refine a_aload_n 0 rfl dX3_ofTerm_0 ?_
  refine gfX3_14 dX3_ofTerm_1 ?_
  refine a_iload_n 1 rfl dX3_ofTerm_4 ?_
  refine kX3_51 (Nat.le_of_ble_eq_true rfl) (Nat.le_of_ble_eq_true rfl) dX3_ofTerm_5 (s_X2_wasMade e1 h) (fun r2 M1 g3 h => ?_)
  refine a_if_ne 13 g3 (by decide) dX3_ofTerm_8 (fun c4 => ?_) (fun c4 => ?_)
  · have h := h.1 c4
    refine a_aload_n 0 rfl dX3_ofTerm_13 ?_
    refine gfX3_14 dX3_ofTerm_14 ?_
    refine a_iload_n 1 rfl dX3_ofTerm_17 ?_
    refine kX3_78 (Nat.le_of_ble_eq_true rfl) (Nat.le_of_ble_eq_true rfl) dX3_ofTerm_18 (s_X2_frontOf e1 h) (fun r6 M5 g7 h => ?_)
    refine a_istore_n (lv' := [(3, vi r6), (0, .ref (ad 0)), (1, vi x1), (2, vi x2)]) (Nat.le_of_ble_eq_true rfl) rfl dX3_ofTerm_21 ?_
    refine a_iload_n 3 rfl dX3_ofTerm_22 ?_
    have c8 : (x2 < 0 ∨ 5 < x2) ∨ x2 = 0 ∨ x2 = 1 ∨ x2 = 2 ∨ x2 = 3 ∨ x2 = 4 ∨ x2 = 5 := by omega
    rcases c8 with c8 | c8 | c8 | c8 | c8 | c8 | c8
    · have h := h.1 c8
      refine a_tsOut 135 e2 (by decide) dX3_ofTerm_23 c8 ?_
      refine a_bipush (by decide) dX3_ofTerm_135 ?_
      exact a_iret rfl dX3_ofTerm_137 (rgk (-2) (by decide)) h
    · have h := h.2.1 c8
      refine a_tsIn (b := 0) (off := 37) 60 e2 (by decide) dX3_ofTerm_23 c8 (by decide) (by decide) rfl ?_
      refine a_iload_n 0 rfl dX3_ofTerm_60 ?_
      refine a_bipush (by decide) dX3_ofTerm_61 ?_
      refine a_icmp_ge 70 g7 (rgk 100 (by decide)) (by decide) dX3_ofTerm_63 (fun c9 => ?_) (fun c9 => ?_)
      · have h := h.1 c9
        refine a_bipush (by decide) dX3_ofTerm_70 ?_
        exact a_iret rfl dX3_ofTerm_72 (rgk (-9) (by decide)) h
      · have h := h.2 c9
        refine a_iload_n 0 rfl dX3_ofTerm_66 ?_
        refine a_goto 72 (by decide) dX3_ofTerm_67 ?_
        exact a_iret rfl dX3_ofTerm_72 g7 h
    · have h := h.2.2.1 c8
      refine a_tsIn (b := 1) (off := 50) 73 e2 (by decide) dX3_ofTerm_23 c8 (by decide) (by decide) rfl ?_
      refine a_aload_n 1 rfl dX3_ofTerm_73 ?_
      refine gfX3_14 dX3_ofTerm_74 ?_
      refine a_iload_n 2 rfl dX3_ofTerm_77 ?_
      refine a_iconst dX3_ofTerm_78 ?_
      refine kX3_81 (Nat.le_of_ble_eq_true rfl) (Nat.le_of_ble_eq_true rfl) dX3_ofTerm_79 (s_X2_partOf e1 (rgk 0 (by decide)) h) (fun r11 M10 g12 h => ?_)
      exact a_iret rfl dX3_ofTerm_82 g12 h
    · have h := h.2.2.2.1 c8
      refine a_tsIn (b := 2) (off := 60) 83 e2 (by decide) dX3_ofTerm_23 c8 (by decide) (by decide) rfl ?_
      refine a_aload_n 1 rfl dX3_ofTerm_83 ?_
      refine gfX3_14 dX3_ofTerm_84 ?_
      refine a_iload_n 2 rfl dX3_ofTerm_87 ?_
      refine a_iconst dX3_ofTerm_88 ?_
      refine kX3_81 (Nat.le_of_ble_eq_true rfl) (Nat.le_of_ble_eq_true rfl) dX3_ofTerm_89 (s_X2_partOf e1 (rgk 1 (by decide)) h) (fun r14 M13 g15 h => ?_)
      exact a_iret rfl dX3_ofTerm_92 g15 h
    · have h := h.2.2.2.2.1 c8
      refine a_tsIn (b := 3) (off := 70) 93 e2 (by decide) dX3_ofTerm_23 c8 (by decide) (by decide) rfl ?_
      refine a_iload_n 0 rfl dX3_ofTerm_93 ?_
      refine a_bipush (by decide) dX3_ofTerm_94 ?_
      refine a_icmp_ge 104 g7 (rgk 100 (by decide)) (by decide) dX3_ofTerm_96 (fun c16 => ?_) (fun c16 => ?_)
      · have h := h.1 c16
        refine a_iload_n 0 rfl dX3_ofTerm_104 ?_
        refine a_bipush (by decide) dX3_ofTerm_105 ?_
        obtain ⟨g17, h⟩ := h
        refine a_isub dX3_ofTerm_107 ?_
        exact a_iret rfl dX3_ofTerm_108 g17 h
      · have h := h.2 c16
        refine a_bipush (by decide) dX3_ofTerm_99 ?_
        refine a_goto 108 (by decide) dX3_ofTerm_101 ?_
        exact a_iret rfl dX3_ofTerm_108 (rgk (-9) (by decide)) h
    · have h := h.2.2.2.2.2.1 c8
      refine a_tsIn (b := 4) (off := 86) 109 e2 (by decide) dX3_ofTerm_23 c8 (by decide) (by decide) rfl ?_
      refine a_aload_n 1 rfl dX3_ofTerm_109 ?_
      refine gfX3_14 dX3_ofTerm_110 ?_
      refine a_iload_n 2 rfl dX3_ofTerm_113 ?_
      refine kX3_84 (Nat.le_of_ble_eq_true rfl) (Nat.le_of_ble_eq_true rfl) dX3_ofTerm_114 (s_X2_isClosed e1 h) (fun r19 M18 g20 h => ?_)
      refine a_if_eq 124 g20 (by decide) dX3_ofTerm_117 (fun c21 => ?_) (fun c21 => ?_)
      · have h := h.1 c21
        refine a_iconst dX3_ofTerm_124 ?_
        exact a_iret rfl dX3_ofTerm_125 (rgk 0 (by decide)) h
      · have h := h.2 c21
        refine a_iconst dX3_ofTerm_120 ?_
        refine a_goto 125 (by decide) dX3_ofTerm_121 ?_
        exact a_iret rfl dX3_ofTerm_125 (rgk 1 (by decide)) h
    · have h := h.2.2.2.2.2.2 c8
      refine a_tsIn (b := 5) (off := 103) 126 e2 (by decide) dX3_ofTerm_23 c8 (by decide) (by decide) rfl ?_
      refine a_aload_n 1 rfl dX3_ofTerm_126 ?_
      refine gfX3_14 dX3_ofTerm_127 ?_
      refine a_iload_n 2 rfl dX3_ofTerm_130 ?_
      refine kX3_87 (Nat.le_of_ble_eq_true rfl) (Nat.le_of_ble_eq_true rfl) dX3_ofTerm_131 (s_X2_depthOf e1 h) (fun r23 M22 g24 h => ?_)
      exact a_iret rfl dX3_ofTerm_134 g24 h
  · have h := h.2 c4
    refine a_iconst dX3_ofTerm_11 ?_
    exact a_iret rfl dX3_ofTerm_12 (rgk (-1) (by decide)) h
set_option maxRecDepth 100000 in
theorem s_X1_sizeUnfolded_L39 {l : Launch} {D : va_G} {ad : Nat → Nat} {cA : Nat → ClassId} (Q : Int → Mem → Prop) : ∀ (n : Nat) (M : Mem) (x1 : Int) (x3 : Int) (x4 : Int) (x6 : Int), rg x1 → rg x3 → rl x4 → rg x6 → w_X1_sizeUnfolded_L39 Q n M x1 x3 x4 x6 → AW (xC l D ad cA) mX1_sizeUnfolded (qL Q) 39 [(0, .ref (ad 2)), (1, vi x1), (3, vi x3), (4, vl x4), (6, vi x6)] [] M := by
  intro n
  induction n with
  | zero => intro M x1 x3 x4 x6 e1 e3 e4 e6 h; exact absurd h id
  | succ n ih =>
    intro M x1 x3 x4 x6 e1 e3 e4 e6 h
    refine a_iload 4 rfl dX1_sizeUnfolded_39 ?_
    refine a_iconst dX1_sizeUnfolded_41 ?_
    refine a_icmp_ge 87 e6 (rgk 2 (by decide)) (by decide) dX1_sizeUnfolded_42 (fun c1 => ?_) (fun c1 => ?_)
    · have h := h.1 c1
      refine a_lload 3 rfl dX1_sizeUnfolded_87 ?_
      exact a_lret rfl dX1_sizeUnfolded_89 e4 h
    · have h := h.2 c1
      refine a_lload 3 rfl dX1_sizeUnfolded_45 ?_
      refine a_aload_n 0 rfl dX1_sizeUnfolded_47 ?_
      refine gfX1_33 dX1_sizeUnfolded_48 ?_
      refine a_iload_n 2 rfl dX1_sizeUnfolded_51 ?_
      refine a_iload 4 rfl dX1_sizeUnfolded_52 ?_
      refine kX1_67 (Nat.le_of_ble_eq_true rfl) (Nat.le_of_ble_eq_true rfl) dX1_sizeUnfolded_54 (s_X2_timesOfParameter e3 e6 h) (fun r3 M2 g4 h => ?_)
      refine a_aload_n 0 rfl dX1_sizeUnfolded_57 ?_
      refine gfX1_33 dX1_sizeUnfolded_58 ?_
      refine a_aload_n 0 rfl dX1_sizeUnfolded_61 ?_
      refine gfX1_33 dX1_sizeUnfolded_62 ?_
      refine a_iload_n 1 rfl dX1_sizeUnfolded_65 ?_
      refine a_iload 4 rfl dX1_sizeUnfolded_66 ?_
      refine kX1_99 (Nat.le_of_ble_eq_true rfl) (Nat.le_of_ble_eq_true rfl) dX1_sizeUnfolded_68 (s_X2_partOf e1 e6 h) (fun r6 M5 g7 h => ?_)
      refine kX1_105 (Nat.le_of_ble_eq_true rfl) (Nat.le_of_ble_eq_true rfl) dX1_sizeUnfolded_71 (s_X2_sizeOf g7 h) (fun r9 M8 g10 h => ?_)
      refine a_iconst dX1_sizeUnfolded_74 ?_
      obtain ⟨g11, h⟩ := h
      refine a_isub dX1_sizeUnfolded_75 ?_
      obtain ⟨g12, h⟩ := h
      refine a_imul dX1_sizeUnfolded_76 ?_
      refine a_i2l g12 dX1_sizeUnfolded_77 ?_
      obtain ⟨g13, h⟩ := h
      refine a_ladd dX1_sizeUnfolded_78 ?_
      refine a_lstore (lv' := [(4, vl (x4 + (r3 * (r9 - 1)))), (0, .ref (ad 2)), (1, vi x1), (3, vi x3), (6, vi x6)]) (Nat.le_of_ble_eq_true rfl) rfl dX1_sizeUnfolded_79 ?_
      obtain ⟨g14, h⟩ := h
      refine a_iinc (lv' := [(6, vi (x6 + 1)), (4, vl (x4 + (r3 * (r9 - 1)))), (0, .ref (ad 2)), (1, vi x1), (3, vi x3)]) 4 rfl (Nat.le_of_ble_eq_true rfl) rfl dX1_sizeUnfolded_81 ?_
      refine a_goto 39 (by decide) dX1_sizeUnfolded_84 ?_
      refine AW.pick [2, 3, 4, 1, 0] rfl ?_
      exact ih M8 x1 x3 (x4 + (r3 * (r9 - 1))) (x6 + 1) e1 e3 g13 g14 h
set_option maxRecDepth 100000 in
theorem s_X1_sizeUnfolded {l : Launch} {D : va_G} {ad : Nat → Nat} {cA : Nat → ClassId} {M : Mem} {x1 : Int} {Q : Int → Mem → Prop} (e1 : rg x1) (h : w_X1_sizeUnfolded M x1 Q) : AM (xC l D ad cA) yX1_sizeUnfolded mX1_sizeUnfolded [.ref (ad 2), vi x1] M (qL Q) := by
  refine AM.ofAW (by decide +kernel) rfl (Nat.le_of_ble_eq_true rfl) ?_
  show AW (xC l D ad cA) mX1_sizeUnfolded (qL Q) 0 [(0, .ref (ad 2)), (1, vi x1)] [] M
  refine a_aload_n 0 rfl dX1_sizeUnfolded_0 ?_
  refine gfX1_33 dX1_sizeUnfolded_1 ?_
  refine a_iload_n 1 rfl dX1_sizeUnfolded_4 ?_
  refine kX1_96 (Nat.le_of_ble_eq_true rfl) (Nat.le_of_ble_eq_true rfl) dX1_sizeUnfolded_5 (s_X2_frontOf e1 h) (fun r2 M1 g3 h => ?_)
  refine a_istore_n (lv' := [(2, vi r2), (0, .ref (ad 2)), (1, vi x1)]) (Nat.le_of_ble_eq_true rfl) rfl dX1_sizeUnfolded_8 ?_
  refine a_aload_n 1 rfl dX1_sizeUnfolded_9 ?_
  refine a_iload_n 0 rfl dX1_sizeUnfolded_10 ?_
  refine kX1_41 (Nat.le_of_ble_eq_true rfl) (Nat.le_of_ble_eq_true rfl) dX1_sizeUnfolded_11 (s_X1_isFolded g3 h) (fun r5 M4 g6 h => ?_)
  refine a_if_ne 19 g6 (by decide) dX1_sizeUnfolded_14 (fun c7 => ?_) (fun c7 => ?_)
  · have h := h.1 c7
    refine a_aload_n 1 rfl dX1_sizeUnfolded_19 ?_
    refine a_iload_n 0 rfl dX1_sizeUnfolded_20 ?_
    refine kX1_48 (Nat.le_of_ble_eq_true rfl) (Nat.le_of_ble_eq_true rfl) dX1_sizeUnfolded_21 (s_X1_definitionOf g3 h) (fun r9 M8 g10 h => ?_)
    refine a_istore_n (lv' := [(3, vi r9), (2, vi r2), (0, .ref (ad 2)), (1, vi x1)]) (Nat.le_of_ble_eq_true rfl) rfl dX1_sizeUnfolded_24 ?_
    refine a_aload_n 2 rfl dX1_sizeUnfolded_25 ?_
    refine gfX1_33 dX1_sizeUnfolded_26 ?_
    refine a_iload_n 0 rfl dX1_sizeUnfolded_29 ?_
    refine kX1_105 (Nat.le_of_ble_eq_true rfl) (Nat.le_of_ble_eq_true rfl) dX1_sizeUnfolded_30 (s_X2_sizeOf g10 h) (fun r12 M11 g13 h => ?_)
    refine a_i2l g13 dX1_sizeUnfolded_33 ?_
    refine a_lstore (lv' := [(4, vl r12), (3, vi r9), (2, vi r2), (0, .ref (ad 2)), (1, vi x1)]) (Nat.le_of_ble_eq_true rfl) rfl dX1_sizeUnfolded_34 ?_
    refine a_iconst dX1_sizeUnfolded_36 ?_
    refine a_istore (lv' := [(6, vi 0), (4, vl r12), (3, vi r9), (2, vi r2), (0, .ref (ad 2)), (1, vi x1)]) (Nat.le_of_ble_eq_true rfl) rfl dX1_sizeUnfolded_37 ?_
    obtain ⟨n39, h⟩ := h
    refine AW.pick [4, 5, 2, 1, 0] rfl ?_
    exact s_X1_sizeUnfolded_L39 Q n39 M11 x1 r9 r12 0 e1 g10 (rl_g g13) (rgk 0 (by decide)) h
  · have h := h.2 c7
    refine a_lconst (v := 0) rfl dX1_sizeUnfolded_17 ?_
    exact a_lret rfl dX1_sizeUnfolded_18 (rlk 0 (by decide)) h
set_option maxRecDepth 100000 in
theorem s_X1_sizeOfWhole {l : Launch} {D : va_G} {ad : Nat → Nat} {cA : Nat → ClassId} {M : Mem} {x1 : Int} {Q : Int → Mem → Prop} (e1 : rg x1) (h : w_X1_sizeOfWhole M x1 Q) : AM (xC l D ad cA) yX1_sizeOfWhole mX1_sizeOfWhole [.ref (ad 2), vi x1] M (qL Q) := by
  refine AM.ofAW (by decide +kernel) rfl (Nat.le_of_ble_eq_true rfl) ?_
  show AW (xC l D ad cA) mX1_sizeOfWhole (qL Q) 0 [(0, .ref (ad 2)), (1, vi x1)] [] M
  refine a_aload_n 0 rfl dX1_sizeOfWhole_0 ?_
  refine a_iload_n 1 rfl dX1_sizeOfWhole_1 ?_
  refine a_iconst dX1_sizeOfWhole_2 ?_
  refine a_iconst dX1_sizeOfWhole_3 ?_
  refine kX1_83 (Nat.le_of_ble_eq_true rfl) (Nat.le_of_ble_eq_true rfl) dX1_sizeOfWhole_4 (s_X1_countInWhole 6 _ _ _ _ _ e1 (rgk 0 (by decide)) (rgk 1 (by decide)) h) (fun r2 M1 g3 h => ?_)
  refine a_aload_n 0 rfl dX1_sizeOfWhole_7 ?_
  refine a_iload_n 1 rfl dX1_sizeOfWhole_8 ?_
  refine a_iconst dX1_sizeOfWhole_9 ?_
  refine a_iconst dX1_sizeOfWhole_10 ?_
  refine kX1_83 (Nat.le_of_ble_eq_true rfl) (Nat.le_of_ble_eq_true rfl) dX1_sizeOfWhole_11 (s_X1_countInWhole 6 _ _ _ _ _ e1 (rgk 1 (by decide)) (rgk 1 (by decide)) h) (fun r5 M4 g6 h => ?_)
  refine kX1_87 (Nat.le_of_ble_eq_true rfl) (Nat.le_of_ble_eq_true rfl) dX1_sizeOfWhole_14 (s_X1_sum g3 g6 h) (fun r8 M7 g9 h => ?_)
  refine a_lstore_n (lv' := [(2, vl r8), (0, .ref (ad 2)), (1, vi x1)]) (Nat.le_of_ble_eq_true rfl) rfl dX1_sizeOfWhole_17 ?_
  refine a_lload_n 0 rfl dX1_sizeOfWhole_18 ?_
  refine a_aload_n 1 rfl dX1_sizeOfWhole_19 ?_
  refine a_iload_n 2 rfl dX1_sizeOfWhole_20 ?_
  refine a_iconst dX1_sizeOfWhole_21 ?_
  refine a_iconst dX1_sizeOfWhole_22 ?_
  refine kX1_83 (Nat.le_of_ble_eq_true rfl) (Nat.le_of_ble_eq_true rfl) dX1_sizeOfWhole_23 (s_X1_countInWhole 6 _ _ _ _ _ e1 (rgk 2 (by decide)) (rgk 1 (by decide)) h) (fun r11 M10 g12 h => ?_)
  refine kX1_87 (Nat.le_of_ble_eq_true rfl) (Nat.le_of_ble_eq_true rfl) dX1_sizeOfWhole_26 (s_X1_sum g9 g12 h) (fun r14 M13 g15 h => ?_)
  exact a_lret rfl dX1_sizeOfWhole_29 g15 h
set_option maxRecDepth 100000 in
theorem s_X1_unfoldingsOutermost {l : Launch} {D : va_G} {ad : Nat → Nat} {cA : Nat → ClassId} {M : Mem} {x1 : Int} {Q : Int → Mem → Prop} (e1 : rg x1) (h : w_X1_unfoldingsOutermost M x1 Q) : AM (xC l D ad cA) yX1_unfoldingsOutermost mX1_unfoldingsOutermost [.ref (ad 2), vi x1] M (qL Q) := by
  refine AM.ofAW (by decide +kernel) rfl (Nat.le_of_ble_eq_true rfl) ?_
  show AW (xC l D ad cA) mX1_unfoldingsOutermost (qL Q) 0 [(0, .ref (ad 2)), (1, vi x1)] [] M
  refine a_aload_n 0 rfl dX1_unfoldingsOutermost_0 ?_
  refine a_iload_n 1 rfl dX1_unfoldingsOutermost_1 ?_
  refine a_iconst dX1_unfoldingsOutermost_2 ?_
  refine a_iconst dX1_unfoldingsOutermost_3 ?_
  refine kX1_83 (Nat.le_of_ble_eq_true rfl) (Nat.le_of_ble_eq_true rfl) dX1_unfoldingsOutermost_4 (s_X1_countInWhole 6 _ _ _ _ _ e1 (rgk 3 (by decide)) (rgk 1 (by decide)) h) (fun r2 M1 g3 h => ?_)
  exact a_lret rfl dX1_unfoldingsOutermost_7 g3 h
set_option maxRecDepth 100000 in
theorem s_X3_size {l : Launch} {D : va_G} {ad : Nat → Nat} {cA : Nat → ClassId} {M : Mem} {x1 : Int} {x2 : Int} {Q : Int → Mem → Prop} (e1 : rg x1) (e2 : rg x2) (h : w_X3_size M x1 x2 Q) : AM (xC l D ad cA) yX3_size mX3_size [.ref (ad 0), vi x1, vi x2] M (qL Q) := by
  refine AM.ofAW (by decide +kernel) rfl (Nat.le_of_ble_eq_true rfl) ?_
  show AW (xC l D ad cA) mX3_size (qL Q) 0 [(0, .ref (ad 0)), (1, vi x1), (2, vi x2)] [] M
  refine a_aload_n 0 rfl dX3_size_0 ?_
  refine gfX3_14 dX3_size_1 ?_
  refine a_iload_n 1 rfl dX3_size_4 ?_
  refine kX3_51 (Nat.le_of_ble_eq_true rfl) (Nat.le_of_ble_eq_true rfl) dX3_size_5 (s_X2_wasMade e1 h) (fun r2 M1 g3 h => ?_)
  refine a_if_ne 15 g3 (by decide) dX3_size_8 (fun c4 => ?_) (fun c4 => ?_)
  · have h := h.1 c4
    refine a_iload_n 2 rfl dX3_size_15 ?_
    have c5 : (x2 < 0 ∨ 3 < x2) ∨ x2 = 0 ∨ x2 = 1 ∨ x2 = 2 ∨ x2 = 3 := by omega
    rcases c5 with c5 | c5 | c5 | c5 | c5
    · have h := h.1 c5
      refine a_tsOut 85 e2 (by decide) dX3_size_16 c5 ?_
      refine a_ldc2 (n := (-9223372036854775808)) (v := (-9223372036854775808)) (gtb_in (by decide +kernel) rfl) rfl dX3_size_85 ?_
      exact a_lret rfl dX3_size_88 (rlk (-9223372036854775808) (by decide)) h
    · have h := h.2.1 c5
      refine a_tsIn (b := 0) (off := 32) 48 e2 (by decide) dX3_size_16 c5 (by decide) (by decide) rfl ?_
      refine a_aload_n 0 rfl dX3_size_48 ?_
      refine gfX3_14 dX3_size_49 ?_
      refine a_iload_n 1 rfl dX3_size_52 ?_
      refine kX3_92 (Nat.le_of_ble_eq_true rfl) (Nat.le_of_ble_eq_true rfl) dX3_size_53 (s_X2_sizeOf e1 h) (fun r7 M6 g8 h => ?_)
      refine a_i2l g8 dX3_size_56 ?_
      exact a_lret rfl dX3_size_57 (rl_g g8) h
    · have h := h.2.2.1 c5
      refine a_tsIn (b := 1) (off := 42) 58 e2 (by decide) dX3_size_16 c5 (by decide) (by decide) rfl ?_
      refine a_aload_n 0 rfl dX3_size_58 ?_
      refine gfX3_23 dX3_size_59 ?_
      refine a_iload_n 1 rfl dX3_size_62 ?_
      refine kX3_95 (Nat.le_of_ble_eq_true rfl) (Nat.le_of_ble_eq_true rfl) dX3_size_63 (s_X1_sizeUnfolded e1 h) (fun r10 M9 g11 h => ?_)
      exact a_lret rfl dX3_size_66 g11 h
    · have h := h.2.2.2.1 c5
      refine a_tsIn (b := 2) (off := 51) 67 e2 (by decide) dX3_size_16 c5 (by decide) (by decide) rfl ?_
      refine a_aload_n 0 rfl dX3_size_67 ?_
      refine gfX3_23 dX3_size_68 ?_
      refine a_iload_n 1 rfl dX3_size_71 ?_
      refine kX3_99 (Nat.le_of_ble_eq_true rfl) (Nat.le_of_ble_eq_true rfl) dX3_size_72 (s_X1_sizeOfWhole e1 h) (fun r13 M12 g14 h => ?_)
      exact a_lret rfl dX3_size_75 g14 h
    · have h := h.2.2.2.2 c5
      refine a_tsIn (b := 3) (off := 60) 76 e2 (by decide) dX3_size_16 c5 (by decide) (by decide) rfl ?_
      refine a_aload_n 0 rfl dX3_size_76 ?_
      refine gfX3_23 dX3_size_77 ?_
      refine a_iload_n 1 rfl dX3_size_80 ?_
      refine kX3_102 (Nat.le_of_ble_eq_true rfl) (Nat.le_of_ble_eq_true rfl) dX3_size_81 (s_X1_unfoldingsOutermost e1 h) (fun r16 M15 g17 h => ?_)
      exact a_lret rfl dX3_size_84 g17 h
  · have h := h.2 c4
    refine a_ldc2 (n := (-9223372036854775808)) (v := (-9223372036854775808)) (gtb_in (by decide +kernel) rfl) rfl dX3_size_11 ?_
    exact a_lret rfl dX3_size_14 (rlk (-9223372036854775808) (by decide)) h
set_option maxRecDepth 100000 in
theorem s_X3_front {l : Launch} {D : va_G} {ad : Nat → Nat} {cA : Nat → ClassId} {M : Mem} {x1 : Int} {Q : Int → Mem → Prop} (e1 : rg x1) (h : w_X3_front M x1 Q) : AM (xC l D ad cA) yX3_front mX3_front [.ref (ad 0), vi x1] M (qI Q) := by
  refine AM.ofAW (by decide +kernel) rfl (Nat.le_of_ble_eq_true rfl) ?_
  show AW (xC l D ad cA) mX3_front (qI Q) 0 [(0, .ref (ad 0)), (1, vi x1)] [] M
  refine a_aload_n 0 rfl dX3_front_0 ?_
  refine gfX3_14 dX3_front_1 ?_
  refine a_iload_n 1 rfl dX3_front_4 ?_
  refine kX3_51 (Nat.le_of_ble_eq_true rfl) (Nat.le_of_ble_eq_true rfl) dX3_front_5 (s_X2_wasMade e1 h) (fun r2 M1 g3 h => ?_)
  refine a_if_ne 13 g3 (by decide) dX3_front_8 (fun c4 => ?_) (fun c4 => ?_)
  · have h := h.1 c4
    refine a_aload_n 0 rfl dX3_front_13 ?_
    refine gfX3_23 dX3_front_14 ?_
    refine a_iload_n 1 rfl dX3_front_17 ?_
    refine kX3_105 (Nat.le_of_ble_eq_true rfl) (Nat.le_of_ble_eq_true rfl) dX3_front_18 (s_X1_frontOfWhole e1 h) (fun r6 M5 g7 h => ?_)
    exact a_iret rfl dX3_front_21 g7 h
  · have h := h.2 c4
    refine a_iconst dX3_front_11 ?_
    exact a_iret rfl dX3_front_12 (rgk (-1) (by decide)) h
set_option maxRecDepth 100000 in
theorem s_J7_fill_d0a16_L6 {l : Launch} {D : va_G} {ad : Nat → Nat} {cA : Nat → ClassId} (Q : Mem → Prop) : ∀ (n : Nat) (M : Mem) (x1 : Int) (x3 : Int) (x4 : Int), rl x1 → rg x3 → rg x4 → w_J7_fill_d0a16_L6 Q n M x1 x3 x4 → AW (xC l D ad cA) mJ7_fill_d0a16 (qV Q) 6 [(0, .ref (ad 22)), (1, vl x1), (3, vi x3), (4, vi x4)] [] M := by
  intro n
  induction n with
  | zero => intro M x1 x3 x4 e1 e3 e4 h; exact absurd h id
  | succ n ih =>
    intro M x1 x3 x4 e1 e3 e4 h
    refine a_iload_n 2 rfl dJ7_fill_d0a16_6 ?_
    refine a_iload 3 rfl dJ7_fill_d0a16_7 ?_
    refine a_icmp_ge 22 e3 e4 (by decide) dJ7_fill_d0a16_9 (fun c1 => ?_) (fun c1 => ?_)
    · have h := h.1 c1
      exact a_vret rfl dJ7_fill_d0a16_22 h
    · have h := h.2 c1
      refine a_aload_n 0 rfl dJ7_fill_d0a16_12 ?_
      refine a_iload_n 2 rfl dJ7_fill_d0a16_13 ?_
      refine a_lload_n 1 rfl dJ7_fill_d0a16_14 ?_
      obtain ⟨b2, h⟩ := h
      refine stC_22 dJ7_fill_d0a16_15 b2 e1 ?_
      obtain ⟨g3, h⟩ := h
      refine a_iinc (lv' := [(3, vi (x3 + 1)), (0, .ref (ad 22)), (1, vl x1), (4, vi x4)]) 2 rfl (Nat.le_of_ble_eq_true rfl) rfl dJ7_fill_d0a16_16 ?_
      refine a_goto 6 (by decide) dJ7_fill_d0a16_19 ?_
      refine AW.pick [1, 2, 0, 3] rfl ?_
      exact ih (up M 22 x3 x1) x1 (x3 + 1) x4 e1 g3 e4 h
set_option maxRecDepth 100000 in
theorem s_J7_fill_d0a16 {l : Launch} {D : va_G} {ad : Nat → Nat} {cA : Nat → ClassId} {M : Mem} {x1 : Int} {Q : Mem → Prop} (e1 : rl x1) (h : w_J7_fill_d0a16 M x1 Q) : AM (xC l D ad cA) yJ7_fill_d0a16 mJ7_fill_d0a16 [.ref (ad 22), vl x1] M (qV Q) := by
  refine AM.ofAW (by decide +kernel) rfl (Nat.le_of_ble_eq_true rfl) ?_
  show AW (xC l D ad cA) mJ7_fill_d0a16 (qV Q) 0 [(0, .ref (ad 22)), (1, vl x1)] [] M
  refine a_iconst dJ7_fill_d0a16_0 ?_
  refine a_istore_n (lv' := [(3, vi 0), (0, .ref (ad 22)), (1, vl x1)]) (Nat.le_of_ble_eq_true rfl) rfl dJ7_fill_d0a16_1 ?_
  refine a_aload_n 1 rfl dJ7_fill_d0a16_2 ?_
  refine lenC_22 dJ7_fill_d0a16_3 ?_
  refine a_istore (lv' := [(4, vi 4440), (3, vi 0), (0, .ref (ad 22)), (1, vl x1)]) (Nat.le_of_ble_eq_true rfl) rfl dJ7_fill_d0a16_4 ?_
  obtain ⟨n6, h⟩ := h
  refine AW.pick [2, 3, 1, 0] rfl ?_
  exact s_J7_fill_d0a16_L6 Q n6 M x1 0 4440 e1 (rgk 0 (by decide)) (rgk 4440 (by decide)) h
set_option maxRecDepth 100000 in
theorem s_X0_start {l : Launch} {D : va_G} {ad : Nat → Nat} {cA : Nat → ClassId} {M : Mem} {Q : Mem → Prop} (h : w_X0_start M Q) : AM (xC l D ad cA) yX0_start mX0_start [.ref (ad 3)] M (qV Q) := by
  refine AM.ofAW (by decide +kernel) rfl (Nat.le_of_ble_eq_true rfl) ?_
  show AW (xC l D ad cA) mX0_start (qV Q) 0 [(0, .ref (ad 3))] [] M
  refine a_aload_n 0 rfl dX0_start_0 ?_
  refine gfX0_11 dX0_start_1 ?_
  refine a_lconst (v := 0) rfl dX0_start_4 ?_
  refine kX0_69 (Nat.le_of_ble_eq_true rfl) (Nat.le_of_ble_eq_true rfl) dX0_start_5 (s_J7_fill_d0a16 (rlk 0 (by decide)) h) (fun M1 h => ?_)
  refine a_aload_n 0 rfl dX0_start_8 ?_
  refine a_iconst dX0_start_9 ?_
  refine pfX0_48 dX0_start_10 (rgk 0 (by decide)) ?_
  refine a_aload_n 0 rfl dX0_start_13 ?_
  refine a_iconst dX0_start_14 ?_
  refine pfX0_75 dX0_start_15 (rgk 0 (by decide)) ?_
  refine a_aload_n 0 rfl dX0_start_18 ?_
  refine a_iconst dX0_start_19 ?_
  refine pfX0_78 dX0_start_20 (rgk 0 (by decide)) ?_
  refine a_aload_n 0 rfl dX0_start_23 ?_
  refine a_bipush (by decide) dX0_start_24 ?_
  refine pfX0_81 dX0_start_26 (rgk (-9) (by decide)) ?_
  refine a_aload_n 0 rfl dX0_start_29 ?_
  refine a_bipush (by decide) dX0_start_30 ?_
  refine pfX0_84 dX0_start_32 (rgk (-9) (by decide)) ?_
  exact a_vret rfl dX0_start_35 h
set_option maxRecDepth 100000 in
theorem s_X0_wordOf {l : Launch} {D : va_G} {ad : Nat → Nat} {cA : Nat → ClassId} {M : Mem} {x0 : Int} {x1 : Int} {Q : Int → Mem → Prop} (e0 : rg x0) (e1 : rg x1) (h : w_X0_wordOf M x0 x1 Q) : AM (xC l D ad cA) yX0_wordOf mX0_wordOf [vi x0, vi x1] M (qI Q) := by
  refine AM.ofAW (by decide +kernel) rfl (Nat.le_of_ble_eq_true rfl) ?_
  show AW (xC l D ad cA) mX0_wordOf (qI Q) 0 [(0, vi x0), (1, vi x1)] [] M
  refine a_iload_n 0 rfl dX0_wordOf_0 ?_
  refine a_bipush (by decide) dX0_wordOf_1 ?_
  obtain ⟨g1, h⟩ := h
  refine a_imul dX0_wordOf_3 ?_
  refine a_iload_n 1 rfl dX0_wordOf_4 ?_
  refine a_bipush (by decide) dX0_wordOf_5 ?_
  obtain ⟨g2, h⟩ := h
  refine a_idiv e1 (rgk 32 (by decide)) (by decide) dX0_wordOf_7 ?_
  obtain ⟨g3, h⟩ := h
  refine a_iadd dX0_wordOf_8 ?_
  exact a_iret rfl dX0_wordOf_9 g3 h
set_option maxRecDepth 100000 in
theorem s_X0_shiftOf {l : Launch} {D : va_G} {ad : Nat → Nat} {cA : Nat → ClassId} {M : Mem} {x0 : Int} {Q : Int → Mem → Prop} (e0 : rg x0) (h : w_X0_shiftOf M x0 Q) : AM (xC l D ad cA) yX0_shiftOf mX0_shiftOf [vi x0] M (qI Q) := by
  refine AM.ofAW (by decide +kernel) rfl (Nat.le_of_ble_eq_true rfl) ?_
  show AW (xC l D ad cA) mX0_shiftOf (qI Q) 0 [(0, vi x0)] [] M
  refine a_iload_n 0 rfl dX0_shiftOf_0 ?_
  refine a_bipush (by decide) dX0_shiftOf_1 ?_
  obtain ⟨g1, h⟩ := h
  refine a_irem e0 (rgk 32 (by decide)) (by decide) dX0_shiftOf_3 ?_
  refine a_iconst dX0_shiftOf_4 ?_
  obtain ⟨g2, h⟩ := h
  refine a_imul dX0_shiftOf_5 ?_
  exact a_iret rfl dX0_shiftOf_6 g2 h
set_option maxRecDepth 100000 in
theorem s_X0_judgment {l : Launch} {D : va_G} {ad : Nat → Nat} {cA : Nat → ClassId} {M : Mem} {x1 : Int} {x2 : Int} {Q : Int → Mem → Prop} (e1 : rg x1) (e2 : rg x2) (h : w_X0_judgment M x1 x2 Q) : AM (xC l D ad cA) yX0_judgment mX0_judgment [.ref (ad 3), vi x1, vi x2] M (qI Q) := by
  refine AM.ofAW (by decide +kernel) rfl (Nat.le_of_ble_eq_true rfl) ?_
  show AW (xC l D ad cA) mX0_judgment (qI Q) 0 [(0, .ref (ad 3)), (1, vi x1), (2, vi x2)] [] M
  refine a_aload_n 0 rfl dX0_judgment_0 ?_
  refine gfX0_28 dX0_judgment_1 ?_
  refine a_iload_n 1 rfl dX0_judgment_4 ?_
  refine kX0_87 (Nat.le_of_ble_eq_true rfl) (Nat.le_of_ble_eq_true rfl) dX0_judgment_5 (s_X2_isHeld e1 h) (fun r2 M1 g3 h => ?_)
  refine a_if_eq 22 g3 (by decide) dX0_judgment_8 (fun c4 => ?_) (fun c4 => ?_)
  · have h := h.1 c4
    refine a_iconst dX0_judgment_22 ?_
    exact a_iret rfl dX0_judgment_23 (rgk 2 (by decide)) h
  · have h := h.2 c4
    refine a_aload_n 0 rfl dX0_judgment_11 ?_
    refine gfX0_28 dX0_judgment_12 ?_
    refine a_iload_n 2 rfl dX0_judgment_15 ?_
    refine kX0_87 (Nat.le_of_ble_eq_true rfl) (Nat.le_of_ble_eq_true rfl) dX0_judgment_16 (s_X2_isHeld e2 h) (fun r6 M5 g7 h => ?_)
    refine a_if_ne 24 g7 (by decide) dX0_judgment_19 (fun c8 => ?_) (fun c8 => ?_)
    · have h := h.1 c8
      refine a_aload_n 0 rfl dX0_judgment_24 ?_
      refine gfX0_11 dX0_judgment_25 ?_
      refine a_iload_n 1 rfl dX0_judgment_28 ?_
      refine a_iload_n 2 rfl dX0_judgment_29 ?_
      refine kX0_155 (Nat.le_of_ble_eq_true rfl) (Nat.le_of_ble_eq_true rfl) dX0_judgment_30 (s_X0_wordOf e1 e2 h) (fun r10 M9 g11 h => ?_)
      obtain ⟨b12, h⟩ := h
      refine ldC_22 dX0_judgment_33 b12 (fun g13 => ?_)
      refine a_iload_n 2 rfl dX0_judgment_34 ?_
      refine kX0_158 (Nat.le_of_ble_eq_true rfl) (Nat.le_of_ble_eq_true rfl) dX0_judgment_35 (s_X0_shiftOf e2 h) (fun r15 M14 g16 h => ?_)
      refine a_lushr dX0_judgment_38 ?_
      refine a_l2i dX0_judgment_39 ?_
      refine a_iconst dX0_judgment_40 ?_
      refine a_iand dX0_judgment_41 ?_
      refine a_istore_n (lv' := [(3, vi (band (bl2i (lbushr (M9 22 r10) r15)) 3)), (0, .ref (ad 3)), (1, vi x1), (2, vi x2)]) (Nat.le_of_ble_eq_true rfl) rfl dX0_judgment_42 ?_
      refine a_iload_n 0 rfl dX0_judgment_43 ?_
      refine a_if_ne 51 (rg_t _) (by decide) dX0_judgment_44 (fun c17 => ?_) (fun c17 => ?_)
      · have h := h.1 c17
        refine a_iload_n 0 rfl dX0_judgment_51 ?_
        refine a_iconst dX0_judgment_52 ?_
        obtain ⟨g18, h⟩ := h
        refine a_isub dX0_judgment_53 ?_
        exact a_iret rfl dX0_judgment_54 g18 h
      · have h := h.2 c17
        refine a_iconst dX0_judgment_47 ?_
        refine a_goto 54 (by decide) dX0_judgment_48 ?_
        exact a_iret rfl dX0_judgment_54 (rgk 2 (by decide)) h
    · have h := h.2 c8
      refine a_iconst dX0_judgment_22 ?_
      exact a_iret rfl dX0_judgment_23 (rgk 2 (by decide)) h
set_option maxRecDepth 100000 in
theorem s_X0_meet {l : Launch} {D : va_G} {ad : Nat → Nat} {cA : Nat → ClassId} {M : Mem} {x1 : Int} {x2 : Int} {Q : Int → Mem → Prop} (e1 : rg x1) (e2 : rg x2) (h : w_X0_meet M x1 x2 Q) : AM (xC l D ad cA) yX0_meet mX0_meet [.ref (ad 3), vi x1, vi x2] M (qI Q) := by
  refine AM.ofAW (by decide +kernel) rfl (Nat.le_of_ble_eq_true rfl) ?_
  show AW (xC l D ad cA) mX0_meet (qI Q) 0 [(0, .ref (ad 3)), (1, vi x1), (2, vi x2)] [] M
  refine a_aload_n 0 rfl dX0_meet_0 ?_
  refine gfX0_28 dX0_meet_1 ?_
  refine a_iload_n 1 rfl dX0_meet_4 ?_
  refine kX0_87 (Nat.le_of_ble_eq_true rfl) (Nat.le_of_ble_eq_true rfl) dX0_meet_5 (s_X2_isHeld e1 h) (fun r2 M1 g3 h => ?_)
  refine a_if_eq 22 g3 (by decide) dX0_meet_8 (fun c4 => ?_) (fun c4 => ?_)
  · have h := h.1 c4
    refine a_bipush (by decide) dX0_meet_22 ?_
    exact a_iret rfl dX0_meet_24 (rgk (-6) (by decide)) h
  · have h := h.2 c4
    refine a_aload_n 0 rfl dX0_meet_11 ?_
    refine gfX0_28 dX0_meet_12 ?_
    refine a_iload_n 2 rfl dX0_meet_15 ?_
    refine kX0_87 (Nat.le_of_ble_eq_true rfl) (Nat.le_of_ble_eq_true rfl) dX0_meet_16 (s_X2_isHeld e2 h) (fun r6 M5 g7 h => ?_)
    refine a_if_ne 25 g7 (by decide) dX0_meet_19 (fun c8 => ?_) (fun c8 => ?_)
    · have h := h.1 c8
      refine a_iload_n 1 rfl dX0_meet_25 ?_
      refine a_iload_n 2 rfl dX0_meet_26 ?_
      refine a_icmp_ne 32 e1 e2 (by decide) dX0_meet_27 (fun c9 => ?_) (fun c9 => ?_)
      · have h := h.1 c9
        refine a_aload_n 0 rfl dX0_meet_32 ?_
        refine a_iload_n 1 rfl dX0_meet_33 ?_
        refine a_iload_n 2 rfl dX0_meet_34 ?_
        refine kX0_91 (Nat.le_of_ble_eq_true rfl) (Nat.le_of_ble_eq_true rfl) dX0_meet_35 (s_X0_judgment e1 e2 h) (fun r11 M10 g12 h => ?_)
        refine a_istore_n (lv' := [(3, vi r11), (0, .ref (ad 3)), (1, vi x1), (2, vi x2)]) (Nat.le_of_ble_eq_true rfl) rfl dX0_meet_38 ?_
        refine a_iload_n 0 rfl dX0_meet_39 ?_
        refine a_iconst dX0_meet_40 ?_
        refine a_icmp_eq 46 g12 (rgk 2 (by decide)) (by decide) dX0_meet_41 (fun c13 => ?_) (fun c13 => ?_)
        · have h := h.1 c13
          refine a_aload_n 1 rfl dX0_meet_46 ?_
          refine gfX0_48 dX0_meet_47 (fun g14 => ?_)
          refine a_sipush (by decide) dX0_meet_50 ?_
          refine a_icmp_lt 59 g14 (rgk 164 (by decide)) (by decide) dX0_meet_53 (fun c15 => ?_) (fun c15 => ?_)
          · have h := h.1 c15
            refine a_aload_n 1 rfl dX0_meet_59 ?_
            refine gfX0_15 dX0_meet_60 ?_
            refine a_aload_n 1 rfl dX0_meet_63 ?_
            refine gfX0_48 dX0_meet_64 (fun g16 => ?_)
            refine a_iload_n 2 rfl dX0_meet_67 ?_
            obtain ⟨b17, h⟩ := h
            refine stC_23 dX0_meet_68 b17 e1 ?_
            refine a_aload_n 1 rfl dX0_meet_69 ?_
            refine gfX0_19 dX0_meet_70 ?_
            refine a_aload_n 1 rfl dX0_meet_73 ?_
            refine gfX0_48 dX0_meet_74 (fun g18 => ?_)
            refine a_iload_n 3 rfl dX0_meet_77 ?_
            obtain ⟨b19, h⟩ := h
            refine stC_24 dX0_meet_78 b19 e2 ?_
            refine a_aload_n 1 rfl dX0_meet_79 ?_
            refine a_dup rfl dX0_meet_80 ?_
            refine gfX0_48 dX0_meet_81 (fun g20 => ?_)
            refine a_iconst dX0_meet_84 ?_
            obtain ⟨g21, h⟩ := h
            refine a_iadd dX0_meet_85 ?_
            refine pfX0_48 dX0_meet_86 g21 ?_
            refine a_aload_n 1 rfl dX0_meet_89 ?_
            refine a_dup rfl dX0_meet_90 ?_
            refine gfX0_78 dX0_meet_91 (fun g22 => ?_)
            refine a_iconst dX0_meet_94 ?_
            obtain ⟨g23, h⟩ := h
            refine a_iadd dX0_meet_95 ?_
            refine pfX0_78 dX0_meet_96 g23 ?_
            refine a_iconst dX0_meet_99 ?_
            exact a_iret rfl dX0_meet_100 (rgk 2 (by decide)) h
          · have h := h.2 c15
            refine a_bipush (by decide) dX0_meet_56 ?_
            exact a_iret rfl dX0_meet_58 (rgk (-6) (by decide)) h
        · have h := h.2 c13
          refine a_iload_n 0 rfl dX0_meet_44 ?_
          exact a_iret rfl dX0_meet_45 g12 h
      · have h := h.2 c9
        refine a_iconst dX0_meet_30 ?_
        exact a_iret rfl dX0_meet_31 (rgk 1 (by decide)) h
    · have h := h.2 c8
      refine a_bipush (by decide) dX0_meet_22 ?_
      exact a_iret rfl dX0_meet_24 (rgk (-6) (by decide)) h
set_option maxRecDepth 100000 in
theorem s_X0_hasLast {l : Launch} {D : va_G} {ad : Nat → Nat} {cA : Nat → ClassId} {M : Mem} {Q : Int → Mem → Prop} (h : w_X0_hasLast M Q) : AM (xC l D ad cA) yX0_hasLast mX0_hasLast [.ref (ad 3)] M (qI Q) := by
  refine AM.ofAW (by decide +kernel) rfl (Nat.le_of_ble_eq_true rfl) ?_
  show AW (xC l D ad cA) mX0_hasLast (qI Q) 0 [(0, .ref (ad 3))] [] M
  refine a_aload_n 0 rfl dX0_hasLast_0 ?_
  refine gfX0_48 dX0_hasLast_1 (fun g1 => ?_)
  refine a_if_le 21 g1 (by decide) dX0_hasLast_4 (fun c2 => ?_) (fun c2 => ?_)
  · have h := h.1 c2
    refine a_iconst dX0_hasLast_21 ?_
    exact a_zret rfl dX0_hasLast_22 (Or.inl rfl) h
  · have h := h.2 c2
    refine a_aload_n 0 rfl dX0_hasLast_7 ?_
    refine gfX0_48 dX0_hasLast_8 (fun g3 => ?_)
    refine a_sipush (by decide) dX0_hasLast_11 ?_
    refine a_icmp_gt 21 g3 (rgk 164 (by decide)) (by decide) dX0_hasLast_14 (fun c4 => ?_) (fun c4 => ?_)
    · have h := h.1 c4
      refine a_iconst dX0_hasLast_21 ?_
      exact a_zret rfl dX0_hasLast_22 (Or.inl rfl) h
    · have h := h.2 c4
      refine a_iconst dX0_hasLast_17 ?_
      refine a_goto 22 (by decide) dX0_hasLast_18 ?_
      exact a_zret rfl dX0_hasLast_22 (Or.inr rfl) h
set_option maxRecDepth 100000 in
theorem s_X0_lastX {l : Launch} {D : va_G} {ad : Nat → Nat} {cA : Nat → ClassId} {M : Mem} {Q : Int → Mem → Prop} (h : w_X0_lastX M Q) : AM (xC l D ad cA) yX0_lastX mX0_lastX [.ref (ad 3)] M (qI Q) := by
  refine AM.ofAW (by decide +kernel) rfl (Nat.le_of_ble_eq_true rfl) ?_
  show AW (xC l D ad cA) mX0_lastX (qI Q) 0 [(0, .ref (ad 3))] [] M
  refine a_aload_n 0 rfl dX0_lastX_0 ?_
  refine kX0_151 (Nat.le_of_ble_eq_true rfl) (Nat.le_of_ble_eq_true rfl) dX0_lastX_1 (s_X0_hasLast h) (fun r2 M1 g3 h => ?_)
  refine a_if_eq 21 g3 (by decide) dX0_lastX_4 (fun c4 => ?_) (fun c4 => ?_)
  · have h := h.1 c4
    refine a_bipush (by decide) dX0_lastX_21 ?_
    exact a_iret rfl dX0_lastX_23 (rgk (-9) (by decide)) h
  · have h := h.2 c4
    refine a_aload_n 0 rfl dX0_lastX_7 ?_
    refine gfX0_15 dX0_lastX_8 ?_
    refine a_aload_n 0 rfl dX0_lastX_11 ?_
    refine gfX0_48 dX0_lastX_12 (fun g5 => ?_)
    refine a_iconst dX0_lastX_15 ?_
    obtain ⟨g6, h⟩ := h
    refine a_isub dX0_lastX_16 ?_
    obtain ⟨b7, h⟩ := h
    refine ldC_23 dX0_lastX_17 b7 (fun g8 => ?_)
    refine a_goto 23 (by decide) dX0_lastX_18 ?_
    exact a_iret rfl dX0_lastX_23 g8 h
set_option maxRecDepth 100000 in
theorem s_X0_lastY {l : Launch} {D : va_G} {ad : Nat → Nat} {cA : Nat → ClassId} {M : Mem} {Q : Int → Mem → Prop} (h : w_X0_lastY M Q) : AM (xC l D ad cA) yX0_lastY mX0_lastY [.ref (ad 3)] M (qI Q) := by
  refine AM.ofAW (by decide +kernel) rfl (Nat.le_of_ble_eq_true rfl) ?_
  show AW (xC l D ad cA) mX0_lastY (qI Q) 0 [(0, .ref (ad 3))] [] M
  refine a_aload_n 0 rfl dX0_lastY_0 ?_
  refine kX0_151 (Nat.le_of_ble_eq_true rfl) (Nat.le_of_ble_eq_true rfl) dX0_lastY_1 (s_X0_hasLast h) (fun r2 M1 g3 h => ?_)
  refine a_if_eq 21 g3 (by decide) dX0_lastY_4 (fun c4 => ?_) (fun c4 => ?_)
  · have h := h.1 c4
    refine a_bipush (by decide) dX0_lastY_21 ?_
    exact a_iret rfl dX0_lastY_23 (rgk (-9) (by decide)) h
  · have h := h.2 c4
    refine a_aload_n 0 rfl dX0_lastY_7 ?_
    refine gfX0_19 dX0_lastY_8 ?_
    refine a_aload_n 0 rfl dX0_lastY_11 ?_
    refine gfX0_48 dX0_lastY_12 (fun g5 => ?_)
    refine a_iconst dX0_lastY_15 ?_
    obtain ⟨g6, h⟩ := h
    refine a_isub dX0_lastY_16 ?_
    obtain ⟨b7, h⟩ := h
    refine ldC_24 dX0_lastY_17 b7 (fun g8 => ?_)
    refine a_goto 23 (by decide) dX0_lastY_18 ?_
    exact a_iret rfl dX0_lastY_23 g8 h
set_option maxRecDepth 100000 in
theorem s_X0_setLastWaitsFor {l : Launch} {D : va_G} {ad : Nat → Nat} {cA : Nat → ClassId} {M : Mem} {x1 : Int} {Q : Mem → Prop} (e1 : rg x1) (h : w_X0_setLastWaitsFor M x1 Q) : AM (xC l D ad cA) yX0_setLastWaitsFor mX0_setLastWaitsFor [.ref (ad 3), vi x1] M (qV Q) := by
  refine AM.ofAW (by decide +kernel) rfl (Nat.le_of_ble_eq_true rfl) ?_
  show AW (xC l D ad cA) mX0_setLastWaitsFor (qV Q) 0 [(0, .ref (ad 3)), (1, vi x1)] [] M
  refine a_aload_n 0 rfl dX0_setLastWaitsFor_0 ?_
  refine kX0_151 (Nat.le_of_ble_eq_true rfl) (Nat.le_of_ble_eq_true rfl) dX0_setLastWaitsFor_1 (s_X0_hasLast h) (fun r2 M1 g3 h => ?_)
  refine a_if_eq 19 g3 (by decide) dX0_setLastWaitsFor_4 (fun c4 => ?_) (fun c4 => ?_)
  · have h := h.1 c4
    exact a_vret rfl dX0_setLastWaitsFor_19 h
  · have h := h.2 c4
    refine a_aload_n 0 rfl dX0_setLastWaitsFor_7 ?_
    refine gfX0_22 dX0_setLastWaitsFor_8 ?_
    refine a_aload_n 0 rfl dX0_setLastWaitsFor_11 ?_
    refine gfX0_48 dX0_setLastWaitsFor_12 (fun g5 => ?_)
    refine a_iconst dX0_setLastWaitsFor_15 ?_
    obtain ⟨g6, h⟩ := h
    refine a_isub dX0_setLastWaitsFor_16 ?_
    refine a_iload_n 1 rfl dX0_setLastWaitsFor_17 ?_
    obtain ⟨b7, h⟩ := h
    refine stC_25 dX0_setLastWaitsFor_18 b7 e1 ?_
    exact a_vret rfl dX0_setLastWaitsFor_19 h
set_option maxRecDepth 100000 in
theorem s_X0_meetParts {l : Launch} {D : va_G} {ad : Nat → Nat} {cA : Nat → ClassId} {M : Mem} {x1 : Int} {Q : Int → Mem → Prop} (e1 : rg x1) (h : w_X0_meetParts M x1 Q) : AM (xC l D ad cA) yX0_meetParts mX0_meetParts [.ref (ad 3), vi x1] M (qI Q) := by
  refine AM.ofAW (by decide +kernel) rfl (Nat.le_of_ble_eq_true rfl) ?_
  show AW (xC l D ad cA) mX0_meetParts (qI Q) 0 [(0, .ref (ad 3)), (1, vi x1)] [] M
  refine a_aload_n 0 rfl dX0_meetParts_0 ?_
  refine a_iload_n 1 rfl dX0_meetParts_1 ?_
  refine kX0_127 (Nat.le_of_ble_eq_true rfl) (Nat.le_of_ble_eq_true rfl) dX0_meetParts_2 (s_X0_setLastWaitsFor e1 h) (fun M1 h => ?_)
  refine a_aload_n 0 rfl dX0_meetParts_5 ?_
  refine a_aload_n 0 rfl dX0_meetParts_6 ?_
  refine gfX0_28 dX0_meetParts_7 ?_
  refine a_aload_n 0 rfl dX0_meetParts_10 ?_
  refine kX0_94 (Nat.le_of_ble_eq_true rfl) (Nat.le_of_ble_eq_true rfl) dX0_meetParts_11 (s_X0_lastX h) (fun r5 M4 g6 h => ?_)
  refine a_iload_n 1 rfl dX0_meetParts_14 ?_
  refine kX0_130 (Nat.le_of_ble_eq_true rfl) (Nat.le_of_ble_eq_true rfl) dX0_meetParts_15 (s_X2_partOf g6 e1 h) (fun r8 M7 g9 h => ?_)
  refine a_aload_n 0 rfl dX0_meetParts_18 ?_
  refine gfX0_28 dX0_meetParts_19 ?_
  refine a_aload_n 0 rfl dX0_meetParts_22 ?_
  refine kX0_100 (Nat.le_of_ble_eq_true rfl) (Nat.le_of_ble_eq_true rfl) dX0_meetParts_23 (s_X0_lastY h) (fun r11 M10 g12 h => ?_)
  refine a_iload_n 1 rfl dX0_meetParts_26 ?_
  refine kX0_130 (Nat.le_of_ble_eq_true rfl) (Nat.le_of_ble_eq_true rfl) dX0_meetParts_27 (s_X2_partOf g12 e1 h) (fun r14 M13 g15 h => ?_)
  refine kX0_43 (Nat.le_of_ble_eq_true rfl) (Nat.le_of_ble_eq_true rfl) dX0_meetParts_30 (s_X0_meet g9 g15 h) (fun r17 M16 g18 h => ?_)
  exact a_iret rfl dX0_meetParts_33 g18 h
set_option maxRecDepth 100000 in
theorem s_X2_filled_J37 {l : Launch} {D : va_G} {ad : Nat → Nat} {cA : Nat → ClassId} {fu : Nat} (F : Mem → Int → Int → Int → Int → (Int → Mem → Prop) → Prop) (hF : ∀ (M : Mem) (x1 : Int) (x2 : Int) (x3 : Int) (x4 : Int) (Q : Int → Mem → Prop), rg x1 → rg x2 → rg x3 → rg x4 → F M x1 x2 x3 x4 Q → AM (xC l D ad cA) yX2_filled (mX2_filled fu) [.ref (ad 1), vi x1, vi x2, vi x3, vi x4] M (qI Q)) (Q : Int → Mem → Prop) (M : Mem) (x1 : Int) (x2 : Int) (x3 : Int) (x4 : Int) (e1 : rg x1) (e2 : rg x2) (e3 : rg x3) (e4 : rg x4) (h : w_X2_filled_J37 F Q M x1 x2 x3 x4) : AW (xC l D ad cA) (mX2_filled (fu + 1)) (qI Q) 37 [(0, .ref (ad 1)), (1, vi x1), (2, vi x2), (3, vi x3), (4, vi x4)] [] M := by
  refine a_aload_n 0 rfl dX2_filled_37 ?_
  refine gfX2_9 dX2_filled_38 ?_
  refine a_iload_n 1 rfl dX2_filled_41 ?_
  obtain ⟨b1, h⟩ := h
  refine ldC_4 dX2_filled_42 b1 (fun g2 => ?_)
  refine a_istore (lv' := [(5, vi (M 4 x1)), (0, .ref (ad 1)), (1, vi x1), (2, vi x2), (3, vi x3), (4, vi x4)]) (Nat.le_of_ble_eq_true rfl) rfl dX2_filled_43 ?_
  refine a_iload 0 rfl dX2_filled_45 ?_
  refine a_bipush (by decide) dX2_filled_47 ?_
  refine a_icmp_ne 54 g2 (rgk 100 (by decide)) (by decide) dX2_filled_49 (fun c3 => ?_) (fun c3 => ?_)
  · have h := h.1 c3
    refine a_iload 0 rfl dX2_filled_54 ?_
    refine a_bipush (by decide) dX2_filled_56 ?_
    refine a_icmp_le 63 g2 (rgk 100 (by decide)) (by decide) dX2_filled_58 (fun c4 => ?_) (fun c4 => ?_)
    · have h := h.1 c4
      refine a_aload_n 1 rfl dX2_filled_63 ?_
      refine a_aload_n 1 rfl dX2_filled_64 ?_
      refine gfX2_15 dX2_filled_65 ?_
      refine a_iload_n 2 rfl dX2_filled_68 ?_
      obtain ⟨b5, h⟩ := h
      refine ldC_5 dX2_filled_69 b5 (fun g6 => ?_)
      refine a_iload_n 3 rfl dX2_filled_70 ?_
      refine a_iload_n 4 rfl dX2_filled_71 ?_
      refine a_iload 5 rfl dX2_filled_72 ?_
      refine a_iconst dX2_filled_74 ?_
      obtain ⟨g7, h⟩ := h
      refine a_iadd dX2_filled_75 ?_
      refine kX2_77 (by omega) (Nat.le_of_ble_eq_true rfl) dX2_filled_76 (hF _ _ _ _ _ _ g6 e2 e3 g7 h) (fun r9 M8 g10 h => ?_)
      refine a_istore (lv' := [(6, vi r9), (5, vi (M 4 x1)), (0, .ref (ad 1)), (1, vi x1), (2, vi x2), (3, vi x3), (4, vi x4)]) (Nat.le_of_ble_eq_true rfl) rfl dX2_filled_79 ?_
      refine a_aload_n 2 rfl dX2_filled_81 ?_
      refine a_aload_n 2 rfl dX2_filled_82 ?_
      refine gfX2_18 dX2_filled_83 ?_
      refine a_iload_n 3 rfl dX2_filled_86 ?_
      obtain ⟨b11, h⟩ := h
      refine ldC_6 dX2_filled_87 b11 (fun g12 => ?_)
      refine a_iload_n 4 rfl dX2_filled_88 ?_
      refine a_iload_n 5 rfl dX2_filled_89 ?_
      refine a_iload 6 rfl dX2_filled_90 ?_
      refine a_iconst dX2_filled_92 ?_
      obtain ⟨g13, h⟩ := h
      refine a_iadd dX2_filled_93 ?_
      refine kX2_77 (by omega) (Nat.le_of_ble_eq_true rfl) dX2_filled_94 (hF _ _ _ _ _ _ g12 e2 e3 g13 h) (fun r15 M14 g16 h => ?_)
      refine a_istore (lv' := [(7, vi r15), (6, vi r9), (5, vi (M 4 x1)), (0, .ref (ad 1)), (1, vi x1), (2, vi x2), (3, vi x3), (4, vi x4)]) (Nat.le_of_ble_eq_true rfl) rfl dX2_filled_97 ?_
      refine a_aload_n 3 rfl dX2_filled_99 ?_
      refine a_iload 2 rfl dX2_filled_100 ?_
      refine a_iload 1 rfl dX2_filled_102 ?_
      refine a_iload 0 rfl dX2_filled_104 ?_
      refine kX2_66 (by omega) (Nat.le_of_ble_eq_true rfl) dX2_filled_106 (s_X2_find g2 g10 g16 h) (fun r18 M17 g19 h => ?_)
      refine a_istore (lv' := [(8, vi r18), (7, vi r15), (6, vi r9), (5, vi (M 4 x1)), (0, .ref (ad 1)), (1, vi x1), (2, vi x2), (3, vi x3), (4, vi x4)]) (Nat.le_of_ble_eq_true rfl) rfl dX2_filled_109 ?_
      refine a_iload 0 rfl dX2_filled_111 ?_
      refine a_bipush (by decide) dX2_filled_113 ?_
      refine a_icmp_eq 123 g19 (rgk (-9) (by decide)) (by decide) dX2_filled_115 (fun c20 => ?_) (fun c20 => ?_)
      · have h := h.1 c20
        refine a_aload_n 4 rfl dX2_filled_123 ?_
        refine a_iload 3 rfl dX2_filled_124 ?_
        refine a_iload 2 rfl dX2_filled_126 ?_
        refine a_iload 1 rfl dX2_filled_128 ?_
        refine kX2_70 (by omega) (Nat.le_of_ble_eq_true rfl) dX2_filled_130 (s_X2_hold g2 g10 g16 h) (fun r22 M21 g23 h => ?_)
        exact a_iret rfl dX2_filled_133 g23 h
      · have h := h.2 c20
        refine a_iload 0 rfl dX2_filled_118 ?_
        refine a_goto 133 (by decide) dX2_filled_120 ?_
        exact a_iret rfl dX2_filled_133 g19 h
    · have h := h.2 c4
      refine a_iload_n 4 rfl dX2_filled_61 ?_
      exact a_iret rfl dX2_filled_62 e3 h
  · have h := h.2 c3
    refine a_iload_n 3 rfl dX2_filled_52 ?_
    exact a_iret rfl dX2_filled_53 e2 h
set_option maxRecDepth 100000 in
theorem s_X2_filled {l : Launch} {D : va_G} {ad : Nat → Nat} {cA : Nat → ClassId} : ∀ (fu : Nat) (M : Mem) (x1 : Int) (x2 : Int) (x3 : Int) (x4 : Int) (Q : Int → Mem → Prop), rg x1 → rg x2 → rg x3 → rg x4 → w_X2_filled fu M x1 x2 x3 x4 Q → AM (xC l D ad cA) yX2_filled (mX2_filled fu) [.ref (ad 1), vi x1, vi x2, vi x3, vi x4] M (qI Q) := by
  intro fu
  induction fu with
  | zero => intro M x1 x2 x3 x4 Q e1 e2 e3 e4 h; exact absurd h id
  | succ fu hF =>
    intro M x1 x2 x3 x4 Q e1 e2 e3 e4 h
    refine AM.ofAW (by decide +kernel) rfl (Nat.le_of_ble_eq_true rfl) ?_
    show AW (xC l D ad cA) (mX2_filled (fu + 1)) (qI Q) 0 [(0, .ref (ad 1)), (1, vi x1), (2, vi x2), (3, vi x3), (4, vi x4)] [] M
    refine a_aload_n 0 rfl dX2_filled_0 ?_
    refine a_iload_n 1 rfl dX2_filled_1 ?_
    refine kX2_50 (by omega) (Nat.le_of_ble_eq_true rfl) dX2_filled_2 (s_X2_wasMade e1 h) (fun r2 M1 g3 h => ?_)
    refine a_if_eq 14 g3 (by decide) dX2_filled_5 (fun c4 => ?_) (fun c4 => ?_)
    · have h := h.1 c4
      refine a_bipush (by decide) dX2_filled_14 ?_
      exact a_iret rfl dX2_filled_16 (rgk (-9) (by decide)) h
    · have h := h.2 c4
      refine a_iload 4 rfl dX2_filled_8 ?_
      refine a_iconst dX2_filled_10 ?_
      refine a_icmp_le 17 e4 (rgk 4 (by decide)) (by decide) dX2_filled_11 (fun c5 => ?_) (fun c5 => ?_)
      · have h := h.1 c5
        refine a_aload_n 0 rfl dX2_filled_17 ?_
        refine gfX2_30 dX2_filled_18 ?_
        refine a_iload_n 1 rfl dX2_filled_21 ?_
        obtain ⟨b6, h⟩ := h
        refine ldC_10 dX2_filled_22 b6 (fun g7 => ?_)
        refine a_if_ne 37 g7 (by decide) dX2_filled_23 (fun c8 => ?_) (fun c8 => ?_)
        · have h := h.1 c8
          refine AW.pick [0, 1, 2, 3, 4] rfl ?_
          exact s_X2_filled_J37 (w_X2_filled fu) hF Q M1 x1 x2 x3 x4 e1 e2 e3 e4 h
        · have h := h.2 c8
          refine a_aload_n 0 rfl dX2_filled_26 ?_
          refine gfX2_33 dX2_filled_27 ?_
          refine a_iload_n 1 rfl dX2_filled_30 ?_
          obtain ⟨b9, h⟩ := h
          refine ldC_11 dX2_filled_31 b9 (fun g10 => ?_)
          refine a_if_ne 37 g10 (by decide) dX2_filled_32 (fun c11 => ?_) (fun c11 => ?_)
          · have h := h.1 c11
            refine AW.pick [0, 1, 2, 3, 4] rfl ?_
            exact s_X2_filled_J37 (w_X2_filled fu) hF Q M1 x1 x2 x3 x4 e1 e2 e3 e4 h
          · have h := h.2 c11
            refine a_iload_n 1 rfl dX2_filled_35 ?_
            exact a_iret rfl dX2_filled_36 e1 h
      · have h := h.2 c5
        refine a_bipush (by decide) dX2_filled_14 ?_
        exact a_iret rfl dX2_filled_16 (rgk (-9) (by decide)) h
set_option maxRecDepth 100000 in
theorem s_X2_unfolded {l : Launch} {D : va_G} {ad : Nat → Nat} {cA : Nat → ClassId} {M : Mem} {x1 : Int} {x2 : Int} {x3 : Int} {Q : Int → Mem → Prop} (e1 : rg x1) (e2 : rg x2) (e3 : rg x3) (h : w_X2_unfolded M x1 x2 x3 Q) : AM (xC l D ad cA) yX2_unfolded mX2_unfolded [.ref (ad 1), vi x1, vi x2, vi x3] M (qI Q) := by
  refine AM.ofAW (by decide +kernel) rfl (Nat.le_of_ble_eq_true rfl) ?_
  show AW (xC l D ad cA) mX2_unfolded (qI Q) 0 [(0, .ref (ad 1)), (1, vi x1), (2, vi x2), (3, vi x3)] [] M
  refine a_aload_n 0 rfl dX2_unfolded_0 ?_
  refine a_iload_n 1 rfl dX2_unfolded_1 ?_
  refine a_iload_n 2 rfl dX2_unfolded_2 ?_
  refine a_iload_n 3 rfl dX2_unfolded_3 ?_
  refine a_iconst dX2_unfolded_4 ?_
  refine kX2_77 (Nat.le_of_ble_eq_true rfl) (Nat.le_of_ble_eq_true rfl) dX2_unfolded_5 (s_X2_filled 6 _ _ _ _ _ _ e1 e2 e3 (rgk 1 (by decide)) h) (fun r2 M1 g3 h => ?_)
  exact a_iret rfl dX2_unfolded_8 g3 h
set_option maxRecDepth 100000 in
theorem s_X0_unfolded {l : Launch} {D : va_G} {ad : Nat → Nat} {cA : Nat → ClassId} {M : Mem} {x1 : Int} {Q : Int → Mem → Prop} (e1 : rg x1) (h : w_X0_unfolded M x1 Q) : AM (xC l D ad cA) yX0_unfolded mX0_unfolded [.ref (ad 3), vi x1] M (qI Q) := by
  refine AM.ofAW (by decide +kernel) rfl (Nat.le_of_ble_eq_true rfl) ?_
  show AW (xC l D ad cA) mX0_unfolded (qI Q) 0 [(0, .ref (ad 3)), (1, vi x1)] [] M
  refine a_aload_n 0 rfl dX0_unfolded_0 ?_
  refine gfX0_32 dX0_unfolded_1 ?_
  refine a_aload_n 0 rfl dX0_unfolded_4 ?_
  refine gfX0_28 dX0_unfolded_5 ?_
  refine a_iload_n 1 rfl dX0_unfolded_8 ?_
  refine kX0_97 (Nat.le_of_ble_eq_true rfl) (Nat.le_of_ble_eq_true rfl) dX0_unfolded_9 (s_X2_frontOf e1 h) (fun r2 M1 g3 h => ?_)
  refine kX0_136 (Nat.le_of_ble_eq_true rfl) (Nat.le_of_ble_eq_true rfl) dX0_unfolded_12 (s_X1_definitionOf g3 h) (fun r5 M4 g6 h => ?_)
  refine a_istore_n (lv' := [(2, vi r5), (0, .ref (ad 3)), (1, vi x1)]) (Nat.le_of_ble_eq_true rfl) rfl dX0_unfolded_15 ?_
  refine a_aload_n 1 rfl dX0_unfolded_16 ?_
  refine gfX0_28 dX0_unfolded_17 ?_
  refine a_iload_n 0 rfl dX0_unfolded_20 ?_
  refine a_aload_n 1 rfl dX0_unfolded_21 ?_
  refine gfX0_28 dX0_unfolded_22 ?_
  refine a_iload_n 2 rfl dX0_unfolded_25 ?_
  refine a_iconst dX0_unfolded_26 ?_
  refine kX0_130 (Nat.le_of_ble_eq_true rfl) (Nat.le_of_ble_eq_true rfl) dX0_unfolded_27 (s_X2_partOf e1 (rgk 0 (by decide)) h) (fun r8 M7 g9 h => ?_)
  refine a_aload_n 1 rfl dX0_unfolded_30 ?_
  refine gfX0_28 dX0_unfolded_31 ?_
  refine a_iload_n 2 rfl dX0_unfolded_34 ?_
  refine a_iconst dX0_unfolded_35 ?_
  refine kX0_130 (Nat.le_of_ble_eq_true rfl) (Nat.le_of_ble_eq_true rfl) dX0_unfolded_36 (s_X2_partOf e1 (rgk 1 (by decide)) h) (fun r11 M10 g12 h => ?_)
  refine kX0_139 (Nat.le_of_ble_eq_true rfl) (Nat.le_of_ble_eq_true rfl) dX0_unfolded_39 (s_X2_unfolded g6 g9 g12 h) (fun r14 M13 g15 h => ?_)
  exact a_iret rfl dX0_unfolded_42 g15 h
set_option maxRecDepth 100000 in
theorem s_X0_unfold_J83 {l : Launch} {D : va_G} {ad : Nat → Nat} {cA : Nat → ClassId} (Q : Int → Mem → Prop) (M : Mem) (x4 : Int) (y0 : Int) (e4 : rg x4) (f0 : rg y0) (h : w_X0_unfold_J83 Q M x4 y0) : AW (xC l D ad cA) mX0_unfold (qI Q) 83 [(0, .ref (ad 3)), (4, vi x4)] [vi y0] M := by
  refine a_istore (lv' := [(5, vi y0), (0, .ref (ad 3)), (4, vi x4)]) (Nat.le_of_ble_eq_true rfl) rfl dX0_unfold_83 ?_
  refine a_aload_n 1 rfl dX0_unfold_85 ?_
  refine a_iload 2 rfl dX0_unfold_86 ?_
  refine a_iload 0 rfl dX0_unfold_88 ?_
  refine kX0_43 (Nat.le_of_ble_eq_true rfl) (Nat.le_of_ble_eq_true rfl) dX0_unfold_90 (s_X0_meet e4 f0 h) (fun r2 M1 g3 h => ?_)
  exact a_iret rfl dX0_unfold_93 g3 h
set_option maxRecDepth 100000 in
theorem s_X0_unfold_J62 {l : Launch} {D : va_G} {ad : Nat → Nat} {cA : Nat → ClassId} (Q : Int → Mem → Prop) (M : Mem) (x2 : Int) (y0 : Int) (e2 : rg x2) (f0 : rg y0) (h : w_X0_unfold_J62 Q M x2 y0) : AW (xC l D ad cA) mX0_unfold (qI Q) 62 [(0, .ref (ad 3)), (2, vi x2)] [vi y0] M := by
  refine a_istore (lv' := [(4, vi y0), (0, .ref (ad 3)), (2, vi x2)]) (Nat.le_of_ble_eq_true rfl) rfl dX0_unfold_62 ?_
  refine a_iload_n 2 rfl dX0_unfold_64 ?_
  refine a_if_eq 79 e2 (by decide) dX0_unfold_65 (fun c1 => ?_) (fun c1 => ?_)
  · have h := h.1 c1
    refine a_aload_n 1 rfl dX0_unfold_79 ?_
    refine kX0_100 (Nat.le_of_ble_eq_true rfl) (Nat.le_of_ble_eq_true rfl) dX0_unfold_80 (s_X0_lastY h) (fun r3 M2 g4 h => ?_)
    refine AW.pick [1, 0] rfl ?_
    exact s_X0_unfold_J83 Q M2 y0 r3 f0 g4 h
  · have h := h.2 c1
    refine a_aload_n 1 rfl dX0_unfold_68 ?_
    refine a_aload_n 1 rfl dX0_unfold_69 ?_
    refine kX0_100 (Nat.le_of_ble_eq_true rfl) (Nat.le_of_ble_eq_true rfl) dX0_unfold_70 (s_X0_lastY h) (fun r6 M5 g7 h => ?_)
    refine kX0_133 (Nat.le_of_ble_eq_true rfl) (Nat.le_of_ble_eq_true rfl) dX0_unfold_73 (s_X0_unfolded g7 h) (fun r9 M8 g10 h => ?_)
    refine a_goto 83 (by decide) dX0_unfold_76 ?_
    refine AW.pick [1, 0] rfl ?_
    exact s_X0_unfold_J83 Q M8 y0 r9 f0 g10 h
set_option maxRecDepth 100000 in
theorem s_X0_unfold_J13 {l : Launch} {D : va_G} {ad : Nat → Nat} {cA : Nat → ClassId} (Q : Int → Mem → Prop) (M : Mem) (x1 : Int) (x2 : Int) (y0 : Int) (e1 : rg x1) (e2 : rg x2) (f0 : rg y0) (h : w_X0_unfold_J13 Q M x1 x2 y0) : AW (xC l D ad cA) mX0_unfold (qI Q) 13 [(0, .ref (ad 3)), (1, vi x1), (2, vi x2)] [vi y0] M := by
  refine a_istore_n (lv' := [(3, vi y0), (0, .ref (ad 3)), (1, vi x1), (2, vi x2)]) (Nat.le_of_ble_eq_true rfl) rfl dX0_unfold_13 ?_
  refine a_aload_n 1 rfl dX0_unfold_14 ?_
  refine gfX0_75 dX0_unfold_15 (fun g1 => ?_)
  refine a_iload_n 0 rfl dX0_unfold_18 ?_
  obtain ⟨g2, h⟩ := h
  refine a_iadd dX0_unfold_19 ?_
  refine a_bipush (by decide) dX0_unfold_20 ?_
  refine a_icmp_le 28 g2 (rgk 40 (by decide)) (by decide) dX0_unfold_22 (fun c3 => ?_) (fun c3 => ?_)
  · have h := h.1 c3
    refine a_aload_n 1 rfl dX0_unfold_28 ?_
    refine a_dup rfl dX0_unfold_29 ?_
    refine gfX0_75 dX0_unfold_30 (fun g4 => ?_)
    refine a_iload_n 0 rfl dX0_unfold_33 ?_
    obtain ⟨g5, h⟩ := h
    refine a_iadd dX0_unfold_34 ?_
    refine pfX0_75 dX0_unfold_35 g5 ?_
    refine a_aload_n 1 rfl dX0_unfold_38 ?_
    refine a_iconst dX0_unfold_39 ?_
    refine kX0_127 (Nat.le_of_ble_eq_true rfl) (Nat.le_of_ble_eq_true rfl) dX0_unfold_40 (s_X0_setLastWaitsFor (rgk 2 (by decide)) h) (fun M6 h => ?_)
    refine a_iload_n 2 rfl dX0_unfold_43 ?_
    refine a_if_eq 58 e1 (by decide) dX0_unfold_44 (fun c9 => ?_) (fun c9 => ?_)
    · have h := h.1 c9
      refine a_aload_n 1 rfl dX0_unfold_58 ?_
      refine kX0_94 (Nat.le_of_ble_eq_true rfl) (Nat.le_of_ble_eq_true rfl) dX0_unfold_59 (s_X0_lastX h) (fun r11 M10 g12 h => ?_)
      refine AW.pick [1, 3] rfl ?_
      exact s_X0_unfold_J62 Q M10 x2 r11 e2 g12 h
    · have h := h.2 c9
      refine a_aload_n 1 rfl dX0_unfold_47 ?_
      refine a_aload_n 1 rfl dX0_unfold_48 ?_
      refine kX0_94 (Nat.le_of_ble_eq_true rfl) (Nat.le_of_ble_eq_true rfl) dX0_unfold_49 (s_X0_lastX h) (fun r14 M13 g15 h => ?_)
      refine kX0_133 (Nat.le_of_ble_eq_true rfl) (Nat.le_of_ble_eq_true rfl) dX0_unfold_52 (s_X0_unfolded g15 h) (fun r17 M16 g18 h => ?_)
      refine a_goto 62 (by decide) dX0_unfold_55 ?_
      refine AW.pick [1, 3] rfl ?_
      exact s_X0_unfold_J62 Q M16 x2 r17 e2 g18 h
  · have h := h.2 c3
    refine a_bipush (by decide) dX0_unfold_25 ?_
    exact a_iret rfl dX0_unfold_27 (rgk (-6) (by decide)) h
set_option maxRecDepth 100000 in
theorem s_X0_unfold_J12 {l : Launch} {D : va_G} {ad : Nat → Nat} {cA : Nat → ClassId} (Q : Int → Mem → Prop) (M : Mem) (x1 : Int) (x2 : Int) (e1 : rg x1) (e2 : rg x2) (h : w_X0_unfold_J12 Q M x1 x2) : AW (xC l D ad cA) mX0_unfold (qI Q) 12 [(0, .ref (ad 3)), (1, vi x1), (2, vi x2)] [] M := by
  refine a_iconst dX0_unfold_12 ?_
  refine AW.pick [0, 1, 2] rfl ?_
  exact s_X0_unfold_J13 Q M x1 x2 1 e1 e2 (rgk 1 (by decide)) h
set_option maxRecDepth 100000 in
theorem s_X0_unfold {l : Launch} {D : va_G} {ad : Nat → Nat} {cA : Nat → ClassId} {M : Mem} {x1 : Int} {x2 : Int} {Q : Int → Mem → Prop} (e1 : rg x1) (e2 : rg x2) (h : w_X0_unfold M x1 x2 Q) : AM (xC l D ad cA) yX0_unfold mX0_unfold [.ref (ad 3), vi x1, vi x2] M (qI Q) := by
  refine AM.ofAW (by decide +kernel) rfl (Nat.le_of_ble_eq_true rfl) ?_
  show AW (xC l D ad cA) mX0_unfold (qI Q) 0 [(0, .ref (ad 3)), (1, vi x1), (2, vi x2)] [] M
  refine a_iload_n 1 rfl dX0_unfold_0 ?_
  refine a_if_eq 12 e1 (by decide) dX0_unfold_1 (fun c1 => ?_) (fun c1 => ?_)
  · have h := h.1 c1
    refine AW.pick [0, 1, 2] rfl ?_
    exact s_X0_unfold_J12 Q M x1 x2 e1 e2 h
  · have h := h.2 c1
    refine a_iload_n 2 rfl dX0_unfold_4 ?_
    refine a_if_eq 12 e2 (by decide) dX0_unfold_5 (fun c2 => ?_) (fun c2 => ?_)
    · have h := h.1 c2
      refine AW.pick [0, 1, 2] rfl ?_
      exact s_X0_unfold_J12 Q M x1 x2 e1 e2 h
    · have h := h.2 c2
      refine a_iconst dX0_unfold_8 ?_
      refine a_goto 13 (by decide) dX0_unfold_9 ?_
      refine AW.pick [0, 1, 2] rfl ?_
      exact s_X0_unfold_J13 Q M x1 x2 2 e1 e2 (rgk 2 (by decide)) h
set_option maxRecDepth 100000 in
theorem s_X0_judge {l : Launch} {D : va_G} {ad : Nat → Nat} {cA : Nat → ClassId} {M : Mem} {x1 : Int} {x2 : Int} {x3 : Int} {Q : Mem → Prop} (e1 : rg x1) (e2 : rg x2) (e3 : rg x3) (h : w_X0_judge M x1 x2 x3 Q) : AM (xC l D ad cA) yX0_judge mX0_judge [.ref (ad 3), vi x1, vi x2, vi x3] M (qV Q) := by
  refine AM.ofAW (by decide +kernel) rfl (Nat.le_of_ble_eq_true rfl) ?_
  show AW (xC l D ad cA) mX0_judge (qV Q) 0 [(0, .ref (ad 3)), (1, vi x1), (2, vi x2), (3, vi x3)] [] M
  refine a_aload_n 0 rfl dX0_judge_0 ?_
  refine gfX0_28 dX0_judge_1 ?_
  refine a_iload_n 1 rfl dX0_judge_4 ?_
  refine kX0_87 (Nat.le_of_ble_eq_true rfl) (Nat.le_of_ble_eq_true rfl) dX0_judge_5 (s_X2_isHeld e1 h) (fun r2 M1 g3 h => ?_)
  refine a_if_eq 22 g3 (by decide) dX0_judge_8 (fun c4 => ?_) (fun c4 => ?_)
  · have h := h.1 c4
    exact a_vret rfl dX0_judge_22 h
  · have h := h.2 c4
    refine a_aload_n 0 rfl dX0_judge_11 ?_
    refine gfX0_28 dX0_judge_12 ?_
    refine a_iload_n 2 rfl dX0_judge_15 ?_
    refine kX0_87 (Nat.le_of_ble_eq_true rfl) (Nat.le_of_ble_eq_true rfl) dX0_judge_16 (s_X2_isHeld e2 h) (fun r6 M5 g7 h => ?_)
    refine a_if_ne 23 g7 (by decide) dX0_judge_19 (fun c8 => ?_) (fun c8 => ?_)
    · have h := h.1 c8
      refine a_aload_n 0 rfl dX0_judge_23 ?_
      refine gfX0_11 dX0_judge_24 ?_
      refine a_iload_n 1 rfl dX0_judge_27 ?_
      refine a_iload_n 2 rfl dX0_judge_28 ?_
      refine kX0_155 (Nat.le_of_ble_eq_true rfl) (Nat.le_of_ble_eq_true rfl) dX0_judge_29 (s_X0_wordOf e1 e2 h) (fun r10 M9 g11 h => ?_)
      refine a_dup2 rfl rfl dX0_judge_32 ?_
      obtain ⟨b12, h⟩ := h
      refine ldC_22 dX0_judge_33 b12 (fun g13 => ?_)
      refine a_iload_n 3 rfl dX0_judge_34 ?_
      refine a_i2l e3 dX0_judge_35 ?_
      refine a_lconst (v := 1) rfl dX0_judge_36 ?_
      obtain ⟨g14, h⟩ := h
      refine a_ladd dX0_judge_37 ?_
      refine a_iload_n 2 rfl dX0_judge_38 ?_
      refine kX0_158 (Nat.le_of_ble_eq_true rfl) (Nat.le_of_ble_eq_true rfl) dX0_judge_39 (s_X0_shiftOf e2 h) (fun r16 M15 g17 h => ?_)
      refine a_lshl dX0_judge_42 ?_
      refine a_lor dX0_judge_43 ?_
      obtain ⟨b18, h⟩ := h
      refine stC_22 dX0_judge_44 b18 (rl_t _) ?_
      exact a_vret rfl dX0_judge_45 h
    · have h := h.2 c8
      exact a_vret rfl dX0_judge_22 h
set_option maxRecDepth 100000 in
theorem s_X0_close {l : Launch} {D : va_G} {ad : Nat → Nat} {cA : Nat → ClassId} {M : Mem} {x1 : Int} {Q : Int → Mem → Prop} (e1 : rg x1) (h : w_X0_close M x1 Q) : AM (xC l D ad cA) yX0_close mX0_close [.ref (ad 3), vi x1] M (qI Q) := by
  refine AM.ofAW (by decide +kernel) rfl (Nat.le_of_ble_eq_true rfl) ?_
  show AW (xC l D ad cA) mX0_close (qI Q) 0 [(0, .ref (ad 3)), (1, vi x1)] [] M
  refine a_aload_n 0 rfl dX0_close_0 ?_
  refine a_aload_n 0 rfl dX0_close_1 ?_
  refine kX0_94 (Nat.le_of_ble_eq_true rfl) (Nat.le_of_ble_eq_true rfl) dX0_close_2 (s_X0_lastX h) (fun r2 M1 g3 h => ?_)
  refine a_aload_n 0 rfl dX0_close_5 ?_
  refine kX0_100 (Nat.le_of_ble_eq_true rfl) (Nat.le_of_ble_eq_true rfl) dX0_close_6 (s_X0_lastY h) (fun r5 M4 g6 h => ?_)
  refine a_iload_n 1 rfl dX0_close_9 ?_
  refine kX0_142 (Nat.le_of_ble_eq_true rfl) (Nat.le_of_ble_eq_true rfl) dX0_close_10 (s_X0_judge g3 g6 e1 h) (fun M7 h => ?_)
  refine a_aload_n 0 rfl dX0_close_13 ?_
  refine a_iconst dX0_close_14 ?_
  refine a_aload_n 0 rfl dX0_close_15 ?_
  refine gfX0_48 dX0_close_16 (fun g10 => ?_)
  refine a_iconst dX0_close_19 ?_
  obtain ⟨g11, h⟩ := h
  refine a_isub dX0_close_20 ?_
  refine kX0_146 (Nat.le_of_ble_eq_true rfl) (Nat.le_of_ble_eq_true rfl) (rgk 0 (by decide)) g11 dX0_close_21 ?_
  refine pfX0_48 dX0_close_24 (rg_imax (rgk 0 (by decide)) g11) ?_
  refine a_iload_n 1 rfl dX0_close_27 ?_
  exact a_iret rfl dX0_close_28 e1 h
set_option maxRecDepth 100000 in
theorem s_X0_begin_J75 {l : Launch} {D : va_G} {ad : Nat → Nat} {cA : Nat → ClassId} (Q : Int → Mem → Prop) (M : Mem) (x3 : Int) (x4 : Int) (y1 : Int) (e3 : rg x3) (e4 : rg x4) (f1 : rg y1) (h : w_X0_begin_J75 Q M x3 x4 y1) : AW (xC l D ad cA) mX0_begin (qI Q) 75 [(3, vi x3), (4, vi x4)] [vi y1, .ref (ad 3)] M := by
  refine a_iload 1 rfl dX0_begin_75 ?_
  refine a_iload_n 0 rfl dX0_begin_77 ?_
  refine a_icmp_lt 85 e4 e3 (by decide) dX0_begin_78 (fun c1 => ?_) (fun c1 => ?_)
  · have h := h.1 c1
    refine a_iconst dX0_begin_85 ?_
    refine kX0_111 (Nat.le_of_ble_eq_true rfl) (Nat.le_of_ble_eq_true rfl) dX0_begin_86 (s_X0_unfold f1 (rgk 0 (by decide)) h) (fun r3 M2 g4 h => ?_)
    exact a_iret rfl dX0_begin_89 g4 h
  · have h := h.2 c1
    refine a_iconst dX0_begin_81 ?_
    refine a_goto 86 (by decide) dX0_begin_82 ?_
    refine kX0_111 (Nat.le_of_ble_eq_true rfl) (Nat.le_of_ble_eq_true rfl) dX0_begin_86 (s_X0_unfold f1 (rgk 1 (by decide)) h) (fun r6 M5 g7 h => ?_)
    exact a_iret rfl dX0_begin_89 g7 h
set_option maxRecDepth 100000 in
theorem s_X0_begin_J63 {l : Launch} {D : va_G} {ad : Nat → Nat} {cA : Nat → ClassId} (Q : Int → Mem → Prop) (M : Mem) (x3 : Int) (x4 : Int) (e3 : rg x3) (e4 : rg x4) (h : w_X0_begin_J63 Q M x3 x4) : AW (xC l D ad cA) mX0_begin (qI Q) 63 [(0, .ref (ad 3)), (3, vi x3), (4, vi x4)] [] M := by
  refine a_aload_n 0 rfl dX0_begin_63 ?_
  refine a_iload_n 1 rfl dX0_begin_64 ?_
  refine a_iload 2 rfl dX0_begin_65 ?_
  refine a_icmp_lt 74 e3 e4 (by decide) dX0_begin_67 (fun c1 => ?_) (fun c1 => ?_)
  · have h := h.1 c1
    refine a_iconst dX0_begin_74 ?_
    refine AW.pick [1, 2] rfl ?_
    exact s_X0_begin_J75 Q M x3 x4 0 e3 e4 (rgk 0 (by decide)) h
  · have h := h.2 c1
    refine a_iconst dX0_begin_70 ?_
    refine a_goto 75 (by decide) dX0_begin_71 ?_
    refine AW.pick [1, 2] rfl ?_
    exact s_X0_begin_J75 Q M x3 x4 1 e3 e4 (rgk 1 (by decide)) h
set_option maxRecDepth 100000 in
theorem s_X0_begin {l : Launch} {D : va_G} {ad : Nat → Nat} {cA : Nat → ClassId} {M : Mem} {Q : Int → Mem → Prop} (h : w_X0_begin M Q) : AM (xC l D ad cA) yX0_begin mX0_begin [.ref (ad 3)] M (qI Q) := by
  refine AM.ofAW (by decide +kernel) rfl (Nat.le_of_ble_eq_true rfl) ?_
  show AW (xC l D ad cA) mX0_begin (qI Q) 0 [(0, .ref (ad 3))] [] M
  refine a_aload_n 0 rfl dX0_begin_0 ?_
  refine gfX0_28 dX0_begin_1 ?_
  refine a_aload_n 0 rfl dX0_begin_4 ?_
  refine kX0_94 (Nat.le_of_ble_eq_true rfl) (Nat.le_of_ble_eq_true rfl) dX0_begin_5 (s_X0_lastX h) (fun r2 M1 g3 h => ?_)
  refine kX0_97 (Nat.le_of_ble_eq_true rfl) (Nat.le_of_ble_eq_true rfl) dX0_begin_8 (s_X2_frontOf g3 h) (fun r5 M4 g6 h => ?_)
  refine a_istore_n (lv' := [(1, vi r5), (0, .ref (ad 3))]) (Nat.le_of_ble_eq_true rfl) rfl dX0_begin_11 ?_
  refine a_aload_n 1 rfl dX0_begin_12 ?_
  refine gfX0_28 dX0_begin_13 ?_
  refine a_aload_n 1 rfl dX0_begin_16 ?_
  refine kX0_100 (Nat.le_of_ble_eq_true rfl) (Nat.le_of_ble_eq_true rfl) dX0_begin_17 (s_X0_lastY h) (fun r8 M7 g9 h => ?_)
  refine kX0_97 (Nat.le_of_ble_eq_true rfl) (Nat.le_of_ble_eq_true rfl) dX0_begin_20 (s_X2_frontOf g9 h) (fun r11 M10 g12 h => ?_)
  refine a_istore_n (lv' := [(2, vi r11), (1, vi r5), (0, .ref (ad 3))]) (Nat.le_of_ble_eq_true rfl) rfl dX0_begin_23 ?_
  refine a_iload_n 1 rfl dX0_begin_24 ?_
  refine a_iload_n 0 rfl dX0_begin_25 ?_
  refine a_icmp_ne 35 g6 g12 (by decide) dX0_begin_26 (fun c13 => ?_) (fun c13 => ?_)
  · have h := h.1 c13
    refine a_aload_n 2 rfl dX0_begin_35 ?_
    refine gfX0_32 dX0_begin_36 ?_
    refine a_iload_n 1 rfl dX0_begin_39 ?_
    refine kX0_106 (Nat.le_of_ble_eq_true rfl) (Nat.le_of_ble_eq_true rfl) dX0_begin_40 (s_X1_heightOf g6 h) (fun r15 M14 g16 h => ?_)
    refine a_istore_n (lv' := [(3, vi r15), (2, vi r11), (1, vi r5), (0, .ref (ad 3))]) (Nat.le_of_ble_eq_true rfl) rfl dX0_begin_43 ?_
    refine a_aload_n 3 rfl dX0_begin_44 ?_
    refine gfX0_32 dX0_begin_45 ?_
    refine a_iload_n 1 rfl dX0_begin_48 ?_
    refine kX0_106 (Nat.le_of_ble_eq_true rfl) (Nat.le_of_ble_eq_true rfl) dX0_begin_49 (s_X1_heightOf g12 h) (fun r18 M17 g19 h => ?_)
    refine a_istore (lv' := [(4, vi r18), (3, vi r15), (2, vi r11), (1, vi r5), (0, .ref (ad 3))]) (Nat.le_of_ble_eq_true rfl) rfl dX0_begin_52 ?_
    refine a_iload_n 1 rfl dX0_begin_54 ?_
    refine a_if_gt 63 g16 (by decide) dX0_begin_55 (fun c20 => ?_) (fun c20 => ?_)
    · have h := h.1 c20
      refine AW.pick [4, 1, 0] rfl ?_
      exact s_X0_begin_J63 Q M17 r15 r18 g16 g19 h
    · have h := h.2 c20
      refine a_iload 0 rfl dX0_begin_58 ?_
      refine a_if_le 90 g19 (by decide) dX0_begin_60 (fun c21 => ?_) (fun c21 => ?_)
      · have h := h.1 c21
        refine a_aload_n 4 rfl dX0_begin_90 ?_
        refine a_iload_n 3 rfl dX0_begin_91 ?_
        refine pfX0_81 dX0_begin_92 g6 ?_
        refine a_aload_n 4 rfl dX0_begin_95 ?_
        refine a_iload_n 2 rfl dX0_begin_96 ?_
        refine pfX0_84 dX0_begin_97 g12 ?_
        refine a_aload_n 4 rfl dX0_begin_100 ?_
        refine a_iconst dX0_begin_101 ?_
        refine kX0_115 (Nat.le_of_ble_eq_true rfl) (Nat.le_of_ble_eq_true rfl) dX0_begin_102 (s_X0_close (rgk 0 (by decide)) h) (fun r23 M22 g24 h => ?_)
        exact a_iret rfl dX0_begin_105 g24 h
      · have h := h.2 c21
        refine AW.pick [4, 1, 0] rfl ?_
        exact s_X0_begin_J63 Q M17 r15 r18 g16 g19 h
  · have h := h.2 c13
    refine a_aload_n 2 rfl dX0_begin_29 ?_
    refine a_iconst dX0_begin_30 ?_
    refine kX0_103 (Nat.le_of_ble_eq_true rfl) (Nat.le_of_ble_eq_true rfl) dX0_begin_31 (s_X0_meetParts (rgk 0 (by decide)) h) (fun r26 M25 g27 h => ?_)
    exact a_iret rfl dX0_begin_34 g27 h
set_option maxRecDepth 100000 in
theorem s_X0_lastWaitsFor {l : Launch} {D : va_G} {ad : Nat → Nat} {cA : Nat → ClassId} {M : Mem} {Q : Int → Mem → Prop} (h : w_X0_lastWaitsFor M Q) : AM (xC l D ad cA) yX0_lastWaitsFor mX0_lastWaitsFor [.ref (ad 3)] M (qI Q) := by
  refine AM.ofAW (by decide +kernel) rfl (Nat.le_of_ble_eq_true rfl) ?_
  show AW (xC l D ad cA) mX0_lastWaitsFor (qI Q) 0 [(0, .ref (ad 3))] [] M
  refine a_aload_n 0 rfl dX0_lastWaitsFor_0 ?_
  refine kX0_151 (Nat.le_of_ble_eq_true rfl) (Nat.le_of_ble_eq_true rfl) dX0_lastWaitsFor_1 (s_X0_hasLast h) (fun r2 M1 g3 h => ?_)
  refine a_if_eq 21 g3 (by decide) dX0_lastWaitsFor_4 (fun c4 => ?_) (fun c4 => ?_)
  · have h := h.1 c4
    refine a_iconst dX0_lastWaitsFor_21 ?_
    exact a_iret rfl dX0_lastWaitsFor_22 (rgk 2 (by decide)) h
  · have h := h.2 c4
    refine a_aload_n 0 rfl dX0_lastWaitsFor_7 ?_
    refine gfX0_22 dX0_lastWaitsFor_8 ?_
    refine a_aload_n 0 rfl dX0_lastWaitsFor_11 ?_
    refine gfX0_48 dX0_lastWaitsFor_12 (fun g5 => ?_)
    refine a_iconst dX0_lastWaitsFor_15 ?_
    obtain ⟨g6, h⟩ := h
    refine a_isub dX0_lastWaitsFor_16 ?_
    obtain ⟨b7, h⟩ := h
    refine ldC_25 dX0_lastWaitsFor_17 b7 (fun g8 => ?_)
    refine a_goto 22 (by decide) dX0_lastWaitsFor_18 ?_
    exact a_iret rfl dX0_lastWaitsFor_22 g8 h
set_option maxRecDepth 100000 in
theorem s_X0_goOn {l : Launch} {D : va_G} {ad : Nat → Nat} {cA : Nat → ClassId} {M : Mem} {x1 : Int} {Q : Int → Mem → Prop} (e1 : rg x1) (h : w_X0_goOn M x1 Q) : AM (xC l D ad cA) yX0_goOn mX0_goOn [.ref (ad 3), vi x1] M (qI Q) := by
  refine AM.ofAW (by decide +kernel) rfl (Nat.le_of_ble_eq_true rfl) ?_
  show AW (xC l D ad cA) mX0_goOn (qI Q) 0 [(0, .ref (ad 3)), (1, vi x1)] [] M
  refine a_aload_n 0 rfl dX0_goOn_0 ?_
  refine kX0_118 (Nat.le_of_ble_eq_true rfl) (Nat.le_of_ble_eq_true rfl) dX0_goOn_1 (s_X0_lastWaitsFor h) (fun r2 M1 g3 h => ?_)
  refine a_istore_n (lv' := [(2, vi r2), (0, .ref (ad 3)), (1, vi x1)]) (Nat.le_of_ble_eq_true rfl) rfl dX0_goOn_4 ?_
  refine a_iload_n 0 rfl dX0_goOn_5 ?_
  refine a_iconst dX0_goOn_6 ?_
  refine a_icmp_ne 16 g3 (rgk 2 (by decide)) (by decide) dX0_goOn_7 (fun c4 => ?_) (fun c4 => ?_)
  · have h := h.1 c4
    refine a_aload_n 1 rfl dX0_goOn_16 ?_
    refine gfX0_28 dX0_goOn_17 ?_
    refine a_aload_n 1 rfl dX0_goOn_20 ?_
    refine kX0_94 (Nat.le_of_ble_eq_true rfl) (Nat.le_of_ble_eq_true rfl) dX0_goOn_21 (s_X0_lastX h) (fun r6 M5 g7 h => ?_)
    refine kX0_97 (Nat.le_of_ble_eq_true rfl) (Nat.le_of_ble_eq_true rfl) dX0_goOn_24 (s_X2_frontOf g7 h) (fun r9 M8 g10 h => ?_)
    refine a_istore_n (lv' := [(3, vi r9), (2, vi r2), (0, .ref (ad 3)), (1, vi x1)]) (Nat.le_of_ble_eq_true rfl) rfl dX0_goOn_27 ?_
    refine a_iload_n 3 rfl dX0_goOn_28 ?_
    refine a_if_ne 58 e1 (by decide) dX0_goOn_29 (fun c11 => ?_) (fun c11 => ?_)
    · have h := h.1 c11
      refine a_iload_n 1 rfl dX0_goOn_58 ?_
      refine a_iconst dX0_goOn_59 ?_
      obtain ⟨g12, h⟩ := h
      refine a_iadd dX0_goOn_60 ?_
      refine a_aload_n 2 rfl dX0_goOn_61 ?_
      refine gfX0_32 dX0_goOn_62 ?_
      refine a_iload_n 0 rfl dX0_goOn_65 ?_
      refine kX0_124 (Nat.le_of_ble_eq_true rfl) (Nat.le_of_ble_eq_true rfl) dX0_goOn_66 (s_X1_arityOf g10 h) (fun r14 M13 g15 h => ?_)
      refine a_icmp_ge 82 g12 g15 (by decide) dX0_goOn_69 (fun c16 => ?_) (fun c16 => ?_)
      · have h := h.1 c16
        refine a_aload_n 2 rfl dX0_goOn_82 ?_
        refine a_iconst dX0_goOn_83 ?_
        refine kX0_115 (Nat.le_of_ble_eq_true rfl) (Nat.le_of_ble_eq_true rfl) dX0_goOn_84 (s_X0_close (rgk 1 (by decide)) h) (fun r18 M17 g19 h => ?_)
        exact a_iret rfl dX0_goOn_87 g19 h
      · have h := h.2 c16
        refine a_aload_n 2 rfl dX0_goOn_72 ?_
        refine a_iload_n 1 rfl dX0_goOn_73 ?_
        refine a_iconst dX0_goOn_74 ?_
        obtain ⟨g20, h⟩ := h
        refine a_iadd dX0_goOn_75 ?_
        refine kX0_103 (Nat.le_of_ble_eq_true rfl) (Nat.le_of_ble_eq_true rfl) dX0_goOn_76 (s_X0_meetParts g20 h) (fun r22 M21 g23 h => ?_)
        refine a_goto 87 (by decide) dX0_goOn_79 ?_
        exact a_iret rfl dX0_goOn_87 g23 h
    · have h := h.2 c11
      refine a_aload_n 2 rfl dX0_goOn_32 ?_
      refine gfX0_32 dX0_goOn_33 ?_
      refine a_iload_n 0 rfl dX0_goOn_36 ?_
      refine kX0_121 (Nat.le_of_ble_eq_true rfl) (Nat.le_of_ble_eq_true rfl) dX0_goOn_37 (s_X1_isFolded g10 h) (fun r25 M24 g26 h => ?_)
      refine a_if_eq 52 g26 (by decide) dX0_goOn_40 (fun c27 => ?_) (fun c27 => ?_)
      · have h := h.1 c27
        refine a_aload_n 2 rfl dX0_goOn_52 ?_
        refine a_iconst dX0_goOn_53 ?_
        refine kX0_115 (Nat.le_of_ble_eq_true rfl) (Nat.le_of_ble_eq_true rfl) dX0_goOn_54 (s_X0_close (rgk 0 (by decide)) h) (fun r29 M28 g30 h => ?_)
        exact a_iret rfl dX0_goOn_57 g30 h
      · have h := h.2 c27
        refine a_aload_n 2 rfl dX0_goOn_43 ?_
        refine a_iconst dX0_goOn_44 ?_
        refine a_iconst dX0_goOn_45 ?_
        refine kX0_111 (Nat.le_of_ble_eq_true rfl) (Nat.le_of_ble_eq_true rfl) dX0_goOn_46 (s_X0_unfold (rgk 1 (by decide)) (rgk 1 (by decide)) h) (fun r32 M31 g33 h => ?_)
        refine a_goto 57 (by decide) dX0_goOn_49 ?_
        exact a_iret rfl dX0_goOn_57 g33 h
  · have h := h.2 c4
    refine a_aload_n 1 rfl dX0_goOn_10 ?_
    refine a_iload_n 2 rfl dX0_goOn_11 ?_
    refine kX0_115 (Nat.le_of_ble_eq_true rfl) (Nat.le_of_ble_eq_true rfl) dX0_goOn_12 (s_X0_close e1 h) (fun r35 M34 g36 h => ?_)
    exact a_iret rfl dX0_goOn_15 g36 h
set_option maxRecDepth 100000 in
theorem s_X2_dropNotMade {l : Launch} {D : va_G} {ad : Nat → Nat} {cA : Nat → ClassId} {M : Mem} {Q : Mem → Prop} (h : w_X2_dropNotMade M Q) : AM (xC l D ad cA) yX2_dropNotMade mX2_dropNotMade [.ref (ad 1)] M (qV Q) := by
  refine AM.ofAW (by decide +kernel) rfl (Nat.le_of_ble_eq_true rfl) ?_
  show AW (xC l D ad cA) mX2_dropNotMade (qV Q) 0 [(0, .ref (ad 1))] [] M
  refine a_aload_n 0 rfl dX2_dropNotMade_0 ?_
  refine a_aload_n 0 rfl dX2_dropNotMade_1 ?_
  refine gfX2_36 dX2_dropNotMade_2 (fun g1 => ?_)
  refine pfX2_40 dX2_dropNotMade_5 g1 ?_
  exact a_vret rfl dX2_dropNotMade_8 h
set_option maxRecDepth 100000 in
theorem s_X0_keep_J59 {l : Launch} {D : va_G} {ad : Nat → Nat} {cA : Nat → ClassId} (Q : Mem → Prop) (M : Mem) (x1 : Int) (y1 : Int) (y2 : Int) (e1 : rg x1) (f1 : rg y1) (f2 : rg y2) (h : w_X0_keep_J59 Q M x1 y1 y2) : AW (xC l D ad cA) mX0_keep (qV Q) 59 [(0, .ref (ad 3)), (1, vi x1)] [vi y2, vi y1, .ref (ad 26)] M := by
  obtain ⟨b1, h⟩ := h
  refine stC_26 dX0_keep_59 b1 f2 ?_
  refine a_aload_n 0 rfl dX0_keep_60 ?_
  refine gfX0_25 dX0_keep_61 ?_
  refine a_iconst dX0_keep_64 ?_
  refine a_iload_n 1 rfl dX0_keep_65 ?_
  obtain ⟨b2, h⟩ := h
  refine stC_26 dX0_keep_66 b2 e1 ?_
  refine a_aload_n 0 rfl dX0_keep_67 ?_
  refine a_iconst dX0_keep_68 ?_
  refine pfX0_36 dX0_keep_69 (Or.inr rfl) ?_
  exact a_vret rfl dX0_keep_72 h
set_option maxRecDepth 100000 in
theorem s_X0_keep_J39 {l : Launch} {D : va_G} {ad : Nat → Nat} {cA : Nat → ClassId} (Q : Mem → Prop) (M : Mem) (x1 : Int) (y1 : Int) (y2 : Int) (e1 : rg x1) (f1 : rg y1) (f2 : rg y2) (h : w_X0_keep_J39 Q M x1 y1 y2) : AW (xC l D ad cA) mX0_keep (qV Q) 39 [(0, .ref (ad 3)), (1, vi x1)] [vi y2, vi y1, .ref (ad 26)] M := by
  obtain ⟨b1, h⟩ := h
  refine stC_26 dX0_keep_39 b1 f2 ?_
  refine a_aload_n 0 rfl dX0_keep_40 ?_
  refine gfX0_25 dX0_keep_41 ?_
  refine a_iconst dX0_keep_44 ?_
  refine a_iload_n 1 rfl dX0_keep_45 ?_
  refine a_iconst dX0_keep_46 ?_
  refine a_icmp_ne 55 e1 (rgk 1 (by decide)) (by decide) dX0_keep_47 (fun c2 => ?_) (fun c2 => ?_)
  · have h := h.1 c2
    refine a_aload_n 0 rfl dX0_keep_55 ?_
    refine gfX0_84 dX0_keep_56 (fun g3 => ?_)
    refine AW.pick [0, 1] rfl ?_
    exact s_X0_keep_J59 Q (up M 26 y1 y2) x1 3 ((up M 26 y1 y2) 3 10) e1 (rgk 3 (by decide)) g3 h
  · have h := h.2 c2
    refine a_bipush (by decide) dX0_keep_50 ?_
    refine a_goto 59 (by decide) dX0_keep_52 ?_
    refine AW.pick [0, 1] rfl ?_
    exact s_X0_keep_J59 Q (up M 26 y1 y2) x1 3 (-9) e1 (rgk 3 (by decide)) (rgk (-9) (by decide)) h
set_option maxRecDepth 100000 in
theorem s_X0_keep {l : Launch} {D : va_G} {ad : Nat → Nat} {cA : Nat → ClassId} {M : Mem} {x1 : Int} {Q : Mem → Prop} (e1 : rg x1) (h : w_X0_keep M x1 Q) : AM (xC l D ad cA) yX0_keep mX0_keep [.ref (ad 3), vi x1] M (qV Q) := by
  refine AM.ofAW (by decide +kernel) rfl (Nat.le_of_ble_eq_true rfl) ?_
  show AW (xC l D ad cA) mX0_keep (qV Q) 0 [(0, .ref (ad 3)), (1, vi x1)] [] M
  refine a_aload_n 0 rfl dX0_keep_0 ?_
  refine gfX0_25 dX0_keep_1 ?_
  refine a_iconst dX0_keep_4 ?_
  refine a_aload_n 0 rfl dX0_keep_5 ?_
  refine gfX0_75 dX0_keep_6 (fun g1 => ?_)
  obtain ⟨b2, h⟩ := h
  refine stC_26 dX0_keep_9 b2 g1 ?_
  refine a_aload_n 0 rfl dX0_keep_10 ?_
  refine gfX0_25 dX0_keep_11 ?_
  refine a_iconst dX0_keep_14 ?_
  refine a_aload_n 0 rfl dX0_keep_15 ?_
  refine gfX0_78 dX0_keep_16 (fun g3 => ?_)
  obtain ⟨b4, h⟩ := h
  refine stC_26 dX0_keep_19 b4 g3 ?_
  refine a_aload_n 0 rfl dX0_keep_20 ?_
  refine gfX0_25 dX0_keep_21 ?_
  refine a_iconst dX0_keep_24 ?_
  refine a_iload_n 1 rfl dX0_keep_25 ?_
  refine a_iconst dX0_keep_26 ?_
  refine a_icmp_ne 35 e1 (rgk 1 (by decide)) (by decide) dX0_keep_27 (fun c5 => ?_) (fun c5 => ?_)
  · have h := h.1 c5
    refine a_aload_n 0 rfl dX0_keep_35 ?_
    refine gfX0_81 dX0_keep_36 (fun g6 => ?_)
    refine AW.pick [0, 1] rfl ?_
    exact s_X0_keep_J39 Q (up (up M 26 0 (M 3 7)) 26 1 ((up M 26 0 (M 3 7)) 3 8)) x1 2 ((up (up M 26 0 (M 3 7)) 26 1 ((up M 26 0 (M 3 7)) 3 8)) 3 9) e1 (rgk 2 (by decide)) g6 h
  · have h := h.2 c5
    refine a_bipush (by decide) dX0_keep_30 ?_
    refine a_goto 39 (by decide) dX0_keep_32 ?_
    refine AW.pick [0, 1] rfl ?_
    exact s_X0_keep_J39 Q (up (up M 26 0 (M 3 7)) 26 1 ((up M 26 0 (M 3 7)) 3 8)) x1 2 (-9) e1 (rgk 2 (by decide)) (rgk (-9) (by decide)) h
set_option maxRecDepth 100000 in
theorem s_X0_run_J58 {l : Launch} {D : va_G} {ad : Nat → Nat} {cA : Nat → ClassId} (Q : Int → Mem → Prop) (M : Mem) (x3 : Int) (e3 : rg x3) (h : w_X0_run_J58 Q M x3) : AW (xC l D ad cA) mX0_run (qI Q) 58 [(0, .ref (ad 3)), (3, vi x3)] [] M := by
  refine a_aload_n 0 rfl dX0_run_58 ?_
  refine gfX0_28 dX0_run_59 ?_
  refine kX0_60 (Nat.le_of_ble_eq_true rfl) (Nat.le_of_ble_eq_true rfl) dX0_run_62 (s_X2_dropNotMade h) (fun M1 h => ?_)
  refine a_aload_n 0 rfl dX0_run_65 ?_
  refine gfX0_48 dX0_run_66 (fun g4 => ?_)
  refine a_if_gt 78 g4 (by decide) dX0_run_69 (fun c5 => ?_) (fun c5 => ?_)
  · have h := h.1 c5
    refine a_bipush (by decide) dX0_run_78 ?_
    exact a_iret rfl dX0_run_80 (rgk (-6) (by decide)) h
  · have h := h.2 c5
    refine a_iload_n 1 rfl dX0_run_72 ?_
    refine a_bipush (by decide) dX0_run_73 ?_
    refine a_icmp_ne 81 e3 (rgk (-6) (by decide)) (by decide) dX0_run_75 (fun c6 => ?_) (fun c6 => ?_)
    · have h := h.1 c6
      refine a_aload_n 0 rfl dX0_run_81 ?_
      refine a_iload_n 1 rfl dX0_run_82 ?_
      refine kX0_65 (Nat.le_of_ble_eq_true rfl) (Nat.le_of_ble_eq_true rfl) dX0_run_83 (s_X0_keep e3 h) (fun M7 h => ?_)
      refine a_iload_n 1 rfl dX0_run_86 ?_
      exact a_iret rfl dX0_run_87 e3 h
    · have h := h.2 c6
      refine a_bipush (by decide) dX0_run_78 ?_
      exact a_iret rfl dX0_run_80 (rgk (-6) (by decide)) h
set_option maxRecDepth 100000 in
theorem s_X0_run_L14 {l : Launch} {D : va_G} {ad : Nat → Nat} {cA : Nat → ClassId} (Q : Int → Mem → Prop) : ∀ (n : Nat) (M : Mem) (x3 : Int) (x4 : Int), rg x3 → rg x4 → w_X0_run_L14 Q n M x3 x4 → AW (xC l D ad cA) mX0_run (qI Q) 14 [(0, .ref (ad 3)), (3, vi x3), (4, vi x4)] [] M := by
  intro n
  induction n with
  | zero => intro M x3 x4 e3 e4 h; exact absurd h id
  | succ n ih =>
    intro M x3 x4 e3 e4 h
    refine a_iload 2 rfl dX0_run_14 ?_
    refine a_ldc (n := 547600) (gtb_in (by decide +kernel) rfl) (v := 547600) rfl dX0_run_16 ?_
    refine a_icmp_ge 58 e4 (rgk 547600 (by decide)) (by decide) dX0_run_18 (fun c1 => ?_) (fun c1 => ?_)
    · have h := h.1 c1
      refine AW.pick [0, 1] rfl ?_
      exact s_X0_run_J58 Q M x3 e3 h
    · have h := h.2 c1
      refine a_aload_n 0 rfl dX0_run_21 ?_
      refine gfX0_48 dX0_run_22 (fun g2 => ?_)
      refine a_if_le 58 g2 (by decide) dX0_run_25 (fun c3 => ?_) (fun c3 => ?_)
      · have h := h.1 c3
        refine AW.pick [0, 1] rfl ?_
        exact s_X0_run_J58 Q M x3 e3 h
      · have h := h.2 c3
        refine a_iload_n 1 rfl dX0_run_28 ?_
        refine a_bipush (by decide) dX0_run_29 ?_
        refine a_icmp_eq 58 e3 (rgk (-6) (by decide)) (by decide) dX0_run_31 (fun c4 => ?_) (fun c4 => ?_)
        · have h := h.1 c4
          refine AW.pick [0, 1] rfl ?_
          exact s_X0_run_J58 Q M x3 e3 h
        · have h := h.2 c4
          refine a_iload_n 1 rfl dX0_run_34 ?_
          refine a_iconst dX0_run_35 ?_
          refine a_icmp_ne 46 e3 (rgk 2 (by decide)) (by decide) dX0_run_36 (fun c5 => ?_) (fun c5 => ?_)
          · have h := h.1 c5
            refine a_aload_n 0 rfl dX0_run_46 ?_
            refine a_iload_n 1 rfl dX0_run_47 ?_
            refine kX0_56 (Nat.le_of_ble_eq_true rfl) (Nat.le_of_ble_eq_true rfl) dX0_run_48 (s_X0_goOn e3 h) (fun r7 M6 g8 h => ?_)
            refine a_istore_n (lv' := [(3, vi r7), (0, .ref (ad 3)), (4, vi x4)]) (Nat.le_of_ble_eq_true rfl) rfl dX0_run_51 ?_
            obtain ⟨g9, h⟩ := h
            refine a_iinc (lv' := [(4, vi (x4 + 1)), (3, vi r7), (0, .ref (ad 3))]) 2 rfl (Nat.le_of_ble_eq_true rfl) rfl dX0_run_52 ?_
            refine a_goto 14 (by decide) dX0_run_55 ?_
            refine AW.pick [2, 1, 0] rfl ?_
            exact ih M6 r7 (x4 + 1) g8 g9 h
          · have h := h.2 c5
            refine a_aload_n 0 rfl dX0_run_39 ?_
            refine kX0_52 (Nat.le_of_ble_eq_true rfl) (Nat.le_of_ble_eq_true rfl) dX0_run_40 (s_X0_begin h) (fun r11 M10 g12 h => ?_)
            refine a_goto 51 (by decide) dX0_run_43 ?_
            refine a_istore_n (lv' := [(3, vi r11), (0, .ref (ad 3)), (4, vi x4)]) (Nat.le_of_ble_eq_true rfl) rfl dX0_run_51 ?_
            obtain ⟨g13, h⟩ := h
            refine a_iinc (lv' := [(4, vi (x4 + 1)), (3, vi r11), (0, .ref (ad 3))]) 2 rfl (Nat.le_of_ble_eq_true rfl) rfl dX0_run_52 ?_
            refine a_goto 14 (by decide) dX0_run_55 ?_
            refine AW.pick [2, 1, 0] rfl ?_
            exact ih M10 r11 (x4 + 1) g12 g13 h
set_option maxRecDepth 100000 in
theorem s_X0_run {l : Launch} {D : va_G} {ad : Nat → Nat} {cA : Nat → ClassId} {M : Mem} {x1 : Int} {x2 : Int} {Q : Int → Mem → Prop} (e1 : rg x1) (e2 : rg x2) (h : w_X0_run M x1 x2 Q) : AM (xC l D ad cA) yX0_run mX0_run [.ref (ad 3), vi x1, vi x2] M (qI Q) := by
  refine AM.ofAW (by decide +kernel) rfl (Nat.le_of_ble_eq_true rfl) ?_
  show AW (xC l D ad cA) mX0_run (qI Q) 0 [(0, .ref (ad 3)), (1, vi x1), (2, vi x2)] [] M
  refine a_aload_n 0 rfl dX0_run_0 ?_
  refine kX0_40 (Nat.le_of_ble_eq_true rfl) (Nat.le_of_ble_eq_true rfl) dX0_run_1 (s_X0_start h) (fun M1 h => ?_)
  refine a_aload_n 0 rfl dX0_run_4 ?_
  refine a_iload_n 1 rfl dX0_run_5 ?_
  refine a_iload_n 2 rfl dX0_run_6 ?_
  refine kX0_43 (Nat.le_of_ble_eq_true rfl) (Nat.le_of_ble_eq_true rfl) dX0_run_7 (s_X0_meet e1 e2 h) (fun r5 M4 g6 h => ?_)
  refine a_istore_n (lv' := [(3, vi r5), (0, .ref (ad 3)), (1, vi x1), (2, vi x2)]) (Nat.le_of_ble_eq_true rfl) rfl dX0_run_10 ?_
  refine a_iconst dX0_run_11 ?_
  refine a_istore (lv' := [(4, vi 0), (3, vi r5), (0, .ref (ad 3)), (1, vi x1), (2, vi x2)]) (Nat.le_of_ble_eq_true rfl) rfl dX0_run_12 ?_
  obtain ⟨n14, h⟩ := h
  refine AW.pick [2, 1, 0] rfl ?_
  exact s_X0_run_L14 Q n14 M4 r5 0 g6 (rgk 0 (by decide)) h
set_option maxRecDepth 100000 in
theorem s_X3_check {l : Launch} {D : va_G} {ad : Nat → Nat} {cA : Nat → ClassId} {M : Mem} {x1 : Int} {x2 : Int} {Q : Int → Mem → Prop} (e1 : rg x1) (e2 : rg x2) (h : w_X3_check M x1 x2 Q) : AM (xC l D ad cA) yX3_check mX3_check [.ref (ad 0), vi x1, vi x2] M (qI Q) := by
  refine AM.ofAW (by decide +kernel) rfl (Nat.le_of_ble_eq_true rfl) ?_
  show AW (xC l D ad cA) mX3_check (qI Q) 0 [(0, .ref (ad 0)), (1, vi x1), (2, vi x2)] [] M
  refine a_aload_n 0 rfl dX3_check_0 ?_
  refine gfX3_14 dX3_check_1 ?_
  refine a_iload_n 1 rfl dX3_check_4 ?_
  refine kX3_51 (Nat.le_of_ble_eq_true rfl) (Nat.le_of_ble_eq_true rfl) dX3_check_5 (s_X2_wasMade e1 h) (fun r2 M1 g3 h => ?_)
  refine a_if_eq 22 g3 (by decide) dX3_check_8 (fun c4 => ?_) (fun c4 => ?_)
  · have h := h.1 c4
    refine a_iconst dX3_check_22 ?_
    exact a_iret rfl dX3_check_23 (rgk (-1) (by decide)) h
  · have h := h.2 c4
    refine a_aload_n 0 rfl dX3_check_11 ?_
    refine gfX3_14 dX3_check_12 ?_
    refine a_iload_n 2 rfl dX3_check_15 ?_
    refine kX3_51 (Nat.le_of_ble_eq_true rfl) (Nat.le_of_ble_eq_true rfl) dX3_check_16 (s_X2_wasMade e2 h) (fun r6 M5 g7 h => ?_)
    refine a_if_ne 24 g7 (by decide) dX3_check_19 (fun c8 => ?_) (fun c8 => ?_)
    · have h := h.1 c8
      refine a_aload_n 0 rfl dX3_check_24 ?_
      refine gfX3_14 dX3_check_25 ?_
      refine a_iload_n 1 rfl dX3_check_28 ?_
      refine kX3_84 (Nat.le_of_ble_eq_true rfl) (Nat.le_of_ble_eq_true rfl) dX3_check_29 (s_X2_isClosed e1 h) (fun r10 M9 g11 h => ?_)
      refine a_if_eq 46 g11 (by decide) dX3_check_32 (fun c12 => ?_) (fun c12 => ?_)
      · have h := h.1 c12
        refine a_bipush (by decide) dX3_check_46 ?_
        exact a_iret rfl dX3_check_48 (rgk (-3) (by decide)) h
      · have h := h.2 c12
        refine a_aload_n 0 rfl dX3_check_35 ?_
        refine gfX3_14 dX3_check_36 ?_
        refine a_iload_n 2 rfl dX3_check_39 ?_
        refine kX3_84 (Nat.le_of_ble_eq_true rfl) (Nat.le_of_ble_eq_true rfl) dX3_check_40 (s_X2_isClosed e2 h) (fun r14 M13 g15 h => ?_)
        refine a_if_ne 49 g15 (by decide) dX3_check_43 (fun c16 => ?_) (fun c16 => ?_)
        · have h := h.1 c16
          refine a_aload_n 0 rfl dX3_check_49 ?_
          refine gfX3_32 dX3_check_50 ?_
          refine a_iload_n 1 rfl dX3_check_53 ?_
          refine a_iload_n 2 rfl dX3_check_54 ?_
          refine kX3_108 (Nat.le_of_ble_eq_true rfl) (Nat.le_of_ble_eq_true rfl) dX3_check_55 (s_X0_run e1 e2 h) (fun r18 M17 g19 h => ?_)
          exact a_iret rfl dX3_check_58 g19 h
        · have h := h.2 c16
          refine a_bipush (by decide) dX3_check_46 ?_
          exact a_iret rfl dX3_check_48 (rgk (-3) (by decide)) h
    · have h := h.2 c8
      refine a_iconst dX3_check_22 ?_
      exact a_iret rfl dX3_check_23 (rgk (-1) (by decide)) h
set_option maxRecDepth 100000 in
theorem s_X0_latest {l : Launch} {D : va_G} {ad : Nat → Nat} {cA : Nat → ClassId} {M : Mem} {x1 : Int} {Q : Int → Mem → Prop} (e1 : rg x1) (h : w_X0_latest M x1 Q) : AM (xC l D ad cA) yX0_latest mX0_latest [.ref (ad 3), vi x1] M (qI Q) := by
  refine AM.ofAW (by decide +kernel) rfl (Nat.le_of_ble_eq_true rfl) ?_
  show AW (xC l D ad cA) mX0_latest (qI Q) 0 [(0, .ref (ad 3)), (1, vi x1)] [] M
  refine a_iload_n 1 rfl dX0_latest_0 ?_
  refine a_if_lt 9 e1 (by decide) dX0_latest_1 (fun c1 => ?_) (fun c1 => ?_)
  · have h := h.1 c1
    refine a_bipush (by decide) dX0_latest_9 ?_
    exact a_iret rfl dX0_latest_11 (rgk (-2) (by decide)) h
  · have h := h.2 c1
    refine a_iload_n 1 rfl dX0_latest_4 ?_
    refine a_iconst dX0_latest_5 ?_
    refine a_icmp_lt 12 e1 (rgk 5 (by decide)) (by decide) dX0_latest_6 (fun c2 => ?_) (fun c2 => ?_)
    · have h := h.1 c2
      refine a_aload_n 0 rfl dX0_latest_12 ?_
      refine gfX0_36 dX0_latest_13 (fun g3 => ?_)
      refine a_if_eq 28 g3 (by decide) dX0_latest_16 (fun c4 => ?_) (fun c4 => ?_)
      · have h := h.1 c4
        refine a_bipush (by decide) dX0_latest_28 ?_
        exact a_iret rfl dX0_latest_30 (rgk (-3) (by decide)) h
      · have h := h.2 c4
        refine a_aload_n 0 rfl dX0_latest_19 ?_
        refine gfX0_25 dX0_latest_20 ?_
        refine a_iload_n 1 rfl dX0_latest_23 ?_
        obtain ⟨b5, h⟩ := h
        refine ldC_26 dX0_latest_24 b5 (fun g6 => ?_)
        refine a_goto 30 (by decide) dX0_latest_25 ?_
        exact a_iret rfl dX0_latest_30 g6 h
    · have h := h.2 c2
      refine a_bipush (by decide) dX0_latest_9 ?_
      exact a_iret rfl dX0_latest_11 (rgk (-2) (by decide)) h
set_option maxRecDepth 100000 in
theorem s_X3_checked {l : Launch} {D : va_G} {ad : Nat → Nat} {cA : Nat → ClassId} {M : Mem} {x1 : Int} {Q : Int → Mem → Prop} (e1 : rg x1) (h : w_X3_checked M x1 Q) : AM (xC l D ad cA) yX3_checked mX3_checked [.ref (ad 0), vi x1] M (qI Q) := by
  refine AM.ofAW (by decide +kernel) rfl (Nat.le_of_ble_eq_true rfl) ?_
  show AW (xC l D ad cA) mX3_checked (qI Q) 0 [(0, .ref (ad 0)), (1, vi x1)] [] M
  refine a_aload_n 0 rfl dX3_checked_0 ?_
  refine gfX3_32 dX3_checked_1 ?_
  refine a_iload_n 1 rfl dX3_checked_4 ?_
  refine kX3_111 (Nat.le_of_ble_eq_true rfl) (Nat.le_of_ble_eq_true rfl) dX3_checked_5 (s_X0_latest e1 h) (fun r2 M1 g3 h => ?_)
  exact a_iret rfl dX3_checked_8 g3 h
set_option maxRecDepth 100000 in
theorem s_X1_howMany {l : Launch} {D : va_G} {ad : Nat → Nat} {cA : Nat → ClassId} {M : Mem} {Q : Int → Mem → Prop} (h : w_X1_howMany M Q) : AM (xC l D ad cA) yX1_howMany mX1_howMany [.ref (ad 2)] M (qI Q) := by
  refine AM.ofAW (by decide +kernel) rfl (Nat.le_of_ble_eq_true rfl) ?_
  show AW (xC l D ad cA) mX1_howMany (qI Q) 0 [(0, .ref (ad 2))] [] M
  refine a_aload_n 0 rfl dX1_howMany_0 ?_
  refine gfX1_37 dX1_howMany_1 (fun g1 => ?_)
  exact a_iret rfl dX1_howMany_4 g1 h
set_option maxRecDepth 100000 in
theorem s_X2_howMany {l : Launch} {D : va_G} {ad : Nat → Nat} {cA : Nat → ClassId} {M : Mem} {Q : Int → Mem → Prop} (h : w_X2_howMany M Q) : AM (xC l D ad cA) yX2_howMany mX2_howMany [.ref (ad 1)] M (qI Q) := by
  refine AM.ofAW (by decide +kernel) rfl (Nat.le_of_ble_eq_true rfl) ?_
  show AW (xC l D ad cA) mX2_howMany (qI Q) 0 [(0, .ref (ad 1))] [] M
  refine a_aload_n 0 rfl dX2_howMany_0 ?_
  refine gfX2_36 dX2_howMany_1 (fun g1 => ?_)
  exact a_iret rfl dX2_howMany_4 g1 h
set_option maxRecDepth 100000 in
theorem s_X1_howManyDefined_L4 {l : Launch} {D : va_G} {ad : Nat → Nat} {cA : Nat → ClassId} (Q : Int → Mem → Prop) : ∀ (n : Nat) (M : Mem) (x1 : Int) (x2 : Int), rg x1 → rg x2 → w_X1_howManyDefined_L4 Q n M x1 x2 → AW (xC l D ad cA) mX1_howManyDefined (qI Q) 4 [(0, .ref (ad 2)), (1, vi x1), (2, vi x2)] [] M := by
  intro n
  induction n with
  | zero => intro M x1 x2 e1 e2 h; exact absurd h id
  | succ n ih =>
    intro M x1 x2 e1 e2 h
    refine a_iload_n 2 rfl dX1_howManyDefined_4 ?_
    refine a_aload_n 0 rfl dX1_howManyDefined_5 ?_
    refine gfX1_37 dX1_howManyDefined_6 (fun g1 => ?_)
    refine a_icmp_ge 32 e2 g1 (by decide) dX1_howManyDefined_9 (fun c2 => ?_) (fun c2 => ?_)
    · have h := h.1 c2
      refine a_iload_n 1 rfl dX1_howManyDefined_32 ?_
      exact a_iret rfl dX1_howManyDefined_33 e1 h
    · have h := h.2 c2
      refine a_aload_n 0 rfl dX1_howManyDefined_12 ?_
      refine gfX1_15 dX1_howManyDefined_13 ?_
      refine a_iload_n 2 rfl dX1_howManyDefined_16 ?_
      obtain ⟨b3, h⟩ := h
      refine ldC_13 dX1_howManyDefined_17 b3 (fun g4 => ?_)
      refine a_bipush (by decide) dX1_howManyDefined_18 ?_
      refine a_icmp_eq 26 g4 (rgk (-9) (by decide)) (by decide) dX1_howManyDefined_20 (fun c5 => ?_) (fun c5 => ?_)
      · have h := h.1 c5
        obtain ⟨g6, h⟩ := h
        refine a_iinc (lv' := [(2, vi (x2 + 1)), (0, .ref (ad 2)), (1, vi x1)]) 2 rfl (Nat.le_of_ble_eq_true rfl) rfl dX1_howManyDefined_26 ?_
        refine a_goto 4 (by decide) dX1_howManyDefined_29 ?_
        refine AW.pick [1, 2, 0] rfl ?_
        exact ih M x1 (x2 + 1) e1 g6 h
      · have h := h.2 c5
        obtain ⟨g7, h⟩ := h
        refine a_iinc (lv' := [(1, vi (x1 + 1)), (0, .ref (ad 2)), (2, vi x2)]) 1 rfl (Nat.le_of_ble_eq_true rfl) rfl dX1_howManyDefined_23 ?_
        obtain ⟨g8, h⟩ := h
        refine a_iinc (lv' := [(2, vi (x2 + 1)), (1, vi (x1 + 1)), (0, .ref (ad 2))]) 2 rfl (Nat.le_of_ble_eq_true rfl) rfl dX1_howManyDefined_26 ?_
        refine a_goto 4 (by decide) dX1_howManyDefined_29 ?_
        refine AW.pick [2, 1, 0] rfl ?_
        exact ih M (x1 + 1) (x2 + 1) g7 g8 h
set_option maxRecDepth 100000 in
theorem s_X1_howManyDefined {l : Launch} {D : va_G} {ad : Nat → Nat} {cA : Nat → ClassId} {M : Mem} {Q : Int → Mem → Prop} (h : w_X1_howManyDefined M Q) : AM (xC l D ad cA) yX1_howManyDefined mX1_howManyDefined [.ref (ad 2)] M (qI Q) := by
  refine AM.ofAW (by decide +kernel) rfl (Nat.le_of_ble_eq_true rfl) ?_
  show AW (xC l D ad cA) mX1_howManyDefined (qI Q) 0 [(0, .ref (ad 2))] [] M
  refine a_iconst dX1_howManyDefined_0 ?_
  refine a_istore_n (lv' := [(1, vi 0), (0, .ref (ad 2))]) (Nat.le_of_ble_eq_true rfl) rfl dX1_howManyDefined_1 ?_
  refine a_iconst dX1_howManyDefined_2 ?_
  refine a_istore_n (lv' := [(2, vi 0), (1, vi 0), (0, .ref (ad 2))]) (Nat.le_of_ble_eq_true rfl) rfl dX1_howManyDefined_3 ?_
  obtain ⟨n4, h⟩ := h
  refine AW.pick [2, 1, 0] rfl ?_
  exact s_X1_howManyDefined_L4 Q n4 M 0 0 (rgk 0 (by decide)) (rgk 0 (by decide)) h
set_option maxRecDepth 100000 in
theorem s_X1_howManyFolded_L4 {l : Launch} {D : va_G} {ad : Nat → Nat} {cA : Nat → ClassId} (Q : Int → Mem → Prop) : ∀ (n : Nat) (M : Mem) (x1 : Int) (x2 : Int), rg x1 → rg x2 → w_X1_howManyFolded_L4 Q n M x1 x2 → AW (xC l D ad cA) mX1_howManyFolded (qI Q) 4 [(0, .ref (ad 2)), (1, vi x1), (2, vi x2)] [] M := by
  intro n
  induction n with
  | zero => intro M x1 x2 e1 e2 h; exact absurd h id
  | succ n ih =>
    intro M x1 x2 e1 e2 h
    refine a_iload_n 2 rfl dX1_howManyFolded_4 ?_
    refine a_aload_n 0 rfl dX1_howManyFolded_5 ?_
    refine gfX1_37 dX1_howManyFolded_6 (fun g1 => ?_)
    refine a_icmp_ge 29 e2 g1 (by decide) dX1_howManyFolded_9 (fun c2 => ?_) (fun c2 => ?_)
    · have h := h.1 c2
      refine a_iload_n 1 rfl dX1_howManyFolded_29 ?_
      exact a_iret rfl dX1_howManyFolded_30 e1 h
    · have h := h.2 c2
      refine a_aload_n 0 rfl dX1_howManyFolded_12 ?_
      refine a_iload_n 2 rfl dX1_howManyFolded_13 ?_
      refine kX1_41 (Nat.le_of_ble_eq_true rfl) (Nat.le_of_ble_eq_true rfl) dX1_howManyFolded_14 (s_X1_isFolded e2 h) (fun r4 M3 g5 h => ?_)
      refine a_if_eq 23 g5 (by decide) dX1_howManyFolded_17 (fun c6 => ?_) (fun c6 => ?_)
      · have h := h.1 c6
        obtain ⟨g7, h⟩ := h
        refine a_iinc (lv' := [(2, vi (x2 + 1)), (0, .ref (ad 2)), (1, vi x1)]) 2 rfl (Nat.le_of_ble_eq_true rfl) rfl dX1_howManyFolded_23 ?_
        refine a_goto 4 (by decide) dX1_howManyFolded_26 ?_
        refine AW.pick [1, 2, 0] rfl ?_
        exact ih M3 x1 (x2 + 1) e1 g7 h
      · have h := h.2 c6
        obtain ⟨g8, h⟩ := h
        refine a_iinc (lv' := [(1, vi (x1 + 1)), (0, .ref (ad 2)), (2, vi x2)]) 1 rfl (Nat.le_of_ble_eq_true rfl) rfl dX1_howManyFolded_20 ?_
        obtain ⟨g9, h⟩ := h
        refine a_iinc (lv' := [(2, vi (x2 + 1)), (1, vi (x1 + 1)), (0, .ref (ad 2))]) 2 rfl (Nat.le_of_ble_eq_true rfl) rfl dX1_howManyFolded_23 ?_
        refine a_goto 4 (by decide) dX1_howManyFolded_26 ?_
        refine AW.pick [2, 1, 0] rfl ?_
        exact ih M3 (x1 + 1) (x2 + 1) g8 g9 h
set_option maxRecDepth 100000 in
theorem s_X1_howManyFolded {l : Launch} {D : va_G} {ad : Nat → Nat} {cA : Nat → ClassId} {M : Mem} {Q : Int → Mem → Prop} (h : w_X1_howManyFolded M Q) : AM (xC l D ad cA) yX1_howManyFolded mX1_howManyFolded [.ref (ad 2)] M (qI Q) := by
  refine AM.ofAW (by decide +kernel) rfl (Nat.le_of_ble_eq_true rfl) ?_
  show AW (xC l D ad cA) mX1_howManyFolded (qI Q) 0 [(0, .ref (ad 2))] [] M
  refine a_iconst dX1_howManyFolded_0 ?_
  refine a_istore_n (lv' := [(1, vi 0), (0, .ref (ad 2))]) (Nat.le_of_ble_eq_true rfl) rfl dX1_howManyFolded_1 ?_
  refine a_iconst dX1_howManyFolded_2 ?_
  refine a_istore_n (lv' := [(2, vi 0), (1, vi 0), (0, .ref (ad 2))]) (Nat.le_of_ble_eq_true rfl) rfl dX1_howManyFolded_3 ?_
  obtain ⟨n4, h⟩ := h
  refine AW.pick [2, 1, 0] rfl ?_
  exact s_X1_howManyFolded_L4 Q n4 M 0 0 (rgk 0 (by decide)) (rgk 0 (by decide)) h
set_option maxRecDepth 100000 in
theorem s_X2_howManyClosed_L4 {l : Launch} {D : va_G} {ad : Nat → Nat} {cA : Nat → ClassId} (Q : Int → Mem → Prop) : ∀ (n : Nat) (M : Mem) (x1 : Int) (x2 : Int), rg x1 → rg x2 → w_X2_howManyClosed_L4 Q n M x1 x2 → AW (xC l D ad cA) mX2_howManyClosed (qI Q) 4 [(0, .ref (ad 1)), (1, vi x1), (2, vi x2)] [] M := by
  intro n
  induction n with
  | zero => intro M x1 x2 e1 e2 h; exact absurd h id
  | succ n ih =>
    intro M x1 x2 e1 e2 h
    refine a_iload_n 2 rfl dX2_howManyClosed_4 ?_
    refine a_aload_n 0 rfl dX2_howManyClosed_5 ?_
    refine gfX2_36 dX2_howManyClosed_6 (fun g1 => ?_)
    refine a_icmp_ge 29 e2 g1 (by decide) dX2_howManyClosed_9 (fun c2 => ?_) (fun c2 => ?_)
    · have h := h.1 c2
      refine a_iload_n 1 rfl dX2_howManyClosed_29 ?_
      exact a_iret rfl dX2_howManyClosed_30 e1 h
    · have h := h.2 c2
      refine a_aload_n 0 rfl dX2_howManyClosed_12 ?_
      refine a_iload_n 2 rfl dX2_howManyClosed_13 ?_
      refine kX2_43 (Nat.le_of_ble_eq_true rfl) (Nat.le_of_ble_eq_true rfl) dX2_howManyClosed_14 (s_X2_isClosed e2 h) (fun r4 M3 g5 h => ?_)
      refine a_if_eq 23 g5 (by decide) dX2_howManyClosed_17 (fun c6 => ?_) (fun c6 => ?_)
      · have h := h.1 c6
        obtain ⟨g7, h⟩ := h
        refine a_iinc (lv' := [(2, vi (x2 + 1)), (0, .ref (ad 1)), (1, vi x1)]) 2 rfl (Nat.le_of_ble_eq_true rfl) rfl dX2_howManyClosed_23 ?_
        refine a_goto 4 (by decide) dX2_howManyClosed_26 ?_
        refine AW.pick [1, 2, 0] rfl ?_
        exact ih M3 x1 (x2 + 1) e1 g7 h
      · have h := h.2 c6
        obtain ⟨g8, h⟩ := h
        refine a_iinc (lv' := [(1, vi (x1 + 1)), (0, .ref (ad 1)), (2, vi x2)]) 1 rfl (Nat.le_of_ble_eq_true rfl) rfl dX2_howManyClosed_20 ?_
        obtain ⟨g9, h⟩ := h
        refine a_iinc (lv' := [(2, vi (x2 + 1)), (1, vi (x1 + 1)), (0, .ref (ad 1))]) 2 rfl (Nat.le_of_ble_eq_true rfl) rfl dX2_howManyClosed_23 ?_
        refine a_goto 4 (by decide) dX2_howManyClosed_26 ?_
        refine AW.pick [2, 1, 0] rfl ?_
        exact ih M3 (x1 + 1) (x2 + 1) g8 g9 h
set_option maxRecDepth 100000 in
theorem s_X2_howManyClosed {l : Launch} {D : va_G} {ad : Nat → Nat} {cA : Nat → ClassId} {M : Mem} {Q : Int → Mem → Prop} (h : w_X2_howManyClosed M Q) : AM (xC l D ad cA) yX2_howManyClosed mX2_howManyClosed [.ref (ad 1)] M (qI Q) := by
  refine AM.ofAW (by decide +kernel) rfl (Nat.le_of_ble_eq_true rfl) ?_
  show AW (xC l D ad cA) mX2_howManyClosed (qI Q) 0 [(0, .ref (ad 1))] [] M
  refine a_iconst dX2_howManyClosed_0 ?_
  refine a_istore_n (lv' := [(1, vi 0), (0, .ref (ad 1))]) (Nat.le_of_ble_eq_true rfl) rfl dX2_howManyClosed_1 ?_
  refine a_iconst dX2_howManyClosed_2 ?_
  refine a_istore_n (lv' := [(2, vi 0), (1, vi 0), (0, .ref (ad 1))]) (Nat.le_of_ble_eq_true rfl) rfl dX2_howManyClosed_3 ?_
  obtain ⟨n4, h⟩ := h
  refine AW.pick [2, 1, 0] rfl ?_
  exact s_X2_howManyClosed_L4 Q n4 M 0 0 (rgk 0 (by decide)) (rgk 0 (by decide)) h
set_option maxRecDepth 100000 in
theorem s_X3_many {l : Launch} {D : va_G} {ad : Nat → Nat} {cA : Nat → ClassId} {M : Mem} {x1 : Int} {Q : Int → Mem → Prop} (e1 : rg x1) (h : w_X3_many M x1 Q) : AM (xC l D ad cA) yX3_many mX3_many [.ref (ad 0), vi x1] M (qI Q) := by
  refine AM.ofAW (by decide +kernel) rfl (Nat.le_of_ble_eq_true rfl) ?_
  show AW (xC l D ad cA) mX3_many (qI Q) 0 [(0, .ref (ad 0)), (1, vi x1)] [] M
  refine a_iload_n 1 rfl dX3_many_0 ?_
  have c1 : (x1 < 0 ∨ 4 < x1) ∨ x1 = 0 ∨ x1 = 1 ∨ x1 = 2 ∨ x1 = 3 ∨ x1 = 4 := by omega
  rcases c1 with c1 | c1 | c1 | c1 | c1 | c1
  · have h := h.1 c1
    refine a_tsOut 76 e1 (by decide) dX3_many_1 c1 ?_
    refine a_bipush (by decide) dX3_many_76 ?_
    exact a_iret rfl dX3_many_78 (rgk (-2) (by decide)) h
  · have h := h.2.1 c1
    refine a_tsIn (b := 0) (off := 35) 36 e1 (by decide) dX3_many_1 c1 (by decide) (by decide) rfl ?_
    refine a_aload_n 0 rfl dX3_many_36 ?_
    refine gfX3_23 dX3_many_37 ?_
    refine kX3_114 (Nat.le_of_ble_eq_true rfl) (Nat.le_of_ble_eq_true rfl) dX3_many_40 (s_X1_howMany h) (fun r3 M2 g4 h => ?_)
    exact a_iret rfl dX3_many_43 g4 h
  · have h := h.2.2.1 c1
    refine a_tsIn (b := 1) (off := 43) 44 e1 (by decide) dX3_many_1 c1 (by decide) (by decide) rfl ?_
    refine a_aload_n 0 rfl dX3_many_44 ?_
    refine gfX3_14 dX3_many_45 ?_
    refine kX3_118 (Nat.le_of_ble_eq_true rfl) (Nat.le_of_ble_eq_true rfl) dX3_many_48 (s_X2_howMany h) (fun r6 M5 g7 h => ?_)
    exact a_iret rfl dX3_many_51 g7 h
  · have h := h.2.2.2.1 c1
    refine a_tsIn (b := 2) (off := 51) 52 e1 (by decide) dX3_many_1 c1 (by decide) (by decide) rfl ?_
    refine a_aload_n 0 rfl dX3_many_52 ?_
    refine gfX3_23 dX3_many_53 ?_
    refine kX3_119 (Nat.le_of_ble_eq_true rfl) (Nat.le_of_ble_eq_true rfl) dX3_many_56 (s_X1_howManyDefined h) (fun r9 M8 g10 h => ?_)
    exact a_iret rfl dX3_many_59 g10 h
  · have h := h.2.2.2.2.1 c1
    refine a_tsIn (b := 3) (off := 59) 60 e1 (by decide) dX3_many_1 c1 (by decide) (by decide) rfl ?_
    refine a_aload_n 0 rfl dX3_many_60 ?_
    refine gfX3_23 dX3_many_61 ?_
    refine kX3_122 (Nat.le_of_ble_eq_true rfl) (Nat.le_of_ble_eq_true rfl) dX3_many_64 (s_X1_howManyFolded h) (fun r12 M11 g13 h => ?_)
    exact a_iret rfl dX3_many_67 g13 h
  · have h := h.2.2.2.2.2 c1
    refine a_tsIn (b := 4) (off := 67) 68 e1 (by decide) dX3_many_1 c1 (by decide) (by decide) rfl ?_
    refine a_aload_n 0 rfl dX3_many_68 ?_
    refine gfX3_14 dX3_many_69 ?_
    refine kX3_125 (Nat.le_of_ble_eq_true rfl) (Nat.le_of_ble_eq_true rfl) dX3_many_72 (s_X2_howManyClosed h) (fun r15 M14 g16 h => ?_)
    exact a_iret rfl dX3_many_75 g16 h
