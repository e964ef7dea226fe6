set_option maxHeartbeats 1500000 in
set_option maxRecDepth 100000 in
theorem i_X1 (l : Launch) (D : va_G) (h0 h1 sz : Nat) : Met l yX1_init (.code yX1_init cX1_init 2 none :: gtb) { frames := 1, cells := 10, slots := 112, locals := 40 } (va_Pc [.ref h0, .ref h1] (fun U => U.heap.size = sz ∧ va_P D vwCl [(h0, .inr (1, [.null, .null, .null, .null, .null, .null, .null, .int 0]))] U.heap ∧ va_K D vwCl [] U ∧ va_D (fun _ => True) [(h0, .inr (1, [.null, .null, .null, .null, .null, .null, .null, .int 0]))] ∧ va_AOA .long U)) (va_Qv (fun _ : (Nat → Nat) × (Nat → ClassId) => True) (fun u t => va_P D vwCl [(h0, .inr (1, [.ref h1, .ref (u.1 0), .ref (u.1 1), .ref (u.1 2), .ref (u.1 3), .ref (u.1 4), .ref (u.1 5), .int 0])), ((u.1 0), .inl ((u.2 0), 12, .inl (fun _ => 0))), ((u.1 1), .inl ((u.2 1), 12, .inl (fun _ => 0))), ((u.1 2), .inl ((u.2 2), 12, .inl (fun _ => 0))), ((u.1 3), .inl ((u.2 3), 12, .inl (fun _ => 0))), ((u.1 4), .inl ((u.2 4), 12, .inl (fun _ => 0))), ((u.1 5), .inl ((u.2 5), 4, .inr (.inr (.inr (.inr (rows u.1 6 4)))))), ((u.1 6), .inl ((u.2 6), 12, .inr (.inl (fun _ => 0)))), ((u.1 7), .inl ((u.2 7), 12, .inr (.inl (fun _ => 0)))), ((u.1 8), .inl ((u.2 8), 12, .inr (.inl (fun _ => 0)))), ((u.1 9), .inl ((u.2 9), 12, .inr (.inl (fun _ => 0))))] t.heap ∧ va_K D vwCl [((u.2 0), .int), ((u.2 1), .int), ((u.2 2), .boolean), ((u.2 3), .int), ((u.2 4), .int), ((u.2 5), .array .long), ((u.2 6), .long), ((u.2 7), .long), ((u.2 8), .long), ((u.2 9), .long)] t ∧ va_D (va_A [(h0, .inr (1, [.null, .null, .null, .null, .null, .null, .null, .int 0]))] sz) [(h0, .inr (1, [.ref h1, .ref (u.1 0), .ref (u.1 1), .ref (u.1 2), .ref (u.1 3), .ref (u.1 4), .ref (u.1 5), .int 0])), ((u.1 0), .inl ((u.2 0), 12, .inl (fun _ => 0))), ((u.1 1), .inl ((u.2 1), 12, .inl (fun _ => 0))), ((u.1 2), .inl ((u.2 2), 12, .inl (fun _ => 0))), ((u.1 3), .inl ((u.2 3), 12, .inl (fun _ => 0))), ((u.1 4), .inl ((u.2 4), 12, .inl (fun _ => 0))), ((u.1 5), .inl ((u.2 5), 4, .inr (.inr (.inr (.inr (rows u.1 6 4)))))), ((u.1 6), .inl ((u.2 6), 12, .inr (.inl (fun _ => 0)))), ((u.1 7), .inl ((u.2 7), 12, .inr (.inl (fun _ => 0)))), ((u.1 8), .inl ((u.2 8), 12, .inr (.inl (fun _ => 0)))), ((u.1 9), .inl ((u.2 9), 12, .inr (.inl (fun _ => 0))))]) (va_A [(h0, .inr (1, [.null, .null, .null, .null, .null, .null, .null, .int 0]))] sz)) 10 112 (va_A [(h0, .inr (1, [.null, .null, .null, .null, .null, .null, .null, .int 0]))] sz) := by
  refine Met.ofW (cc := cX1_init) (maxL := 2) (ret := none) (by decide) rfl ?_
  intro p e s m args below meth c s₁ B hml hv
  obtain ⟨rfl, hsz, hP, hK, hD0, hO⟩ := hv
  have hx := B.exec
  have hb := B.bytes
  have hr := B.returns
  have hts := atoms_spec (ws := .code yX1_init cX1_init 2 none :: gtb) B.pre
  have hg : ∀ w ∈ gtb, w.before _ s = true := fun w hw => hts w (List.mem_cons_of_mem _ hw)
  have hown : s.vm.findClass RX1 = some m.cls := findClass_of_methodNamed B.named
  have hin : meth.name = "<init>" := (name_of_methodNamed B.named B.method).1
  subst hsz
  have hD := hD0.self (sz := s.heap.size)
  generalize hAe : va_A [(h0, .inr (1, [.null, .null, .null, .null, .null, .null, .null, .int 0]))] s.heap.size = A at hD ⊢
  have hA : ∀ q : Nat, s.heap.size ≤ q → A q := fun q h => by rw [← hAe]; exact Or.inr h
  have hS : va_S A s.heap s.heap [] := va_S.rf
  have hl := lv_entry ([.ref h0, .ref h1]) (n := 2) (Nat.le_of_ble_eq_true rfl)
  rw [lg_entry_eq]
  generalize (lg_sl ([.ref h0, .ref h1]) ++ List.replicate (2 - (lg_sl ([.ref h0, .ref h1])).length) Slot.unset).toArray = ls at hl ⊢
  have hl : lv_has ls 2 [(0, .ref h0), (1, .ref h1)] := hl
  refine lv_aload_n hx hb dX1_init_0 rfl (lv_at hl 0 rfl) ?_
  refine W.objInit hx hb hown (hg (.methodLink RX1 3 objectInit) (gtb_in (by decide +kernel) rfl)) (hg (.instanceMethod objectInit) (gtb_in (by decide +kernel) rfl)) (hg (.code objectInit ⟨#[0xb1]⟩ 1 none) (gtb_in (by decide +kernel) rfl)) rfl (by rw [hml]; exact hl.1) rfl dX1_init_1 (Nat.le_of_ble_eq_true rfl) (Nat.le_of_ble_eq_true rfl) ?_
  refine W.eq (g2 := F0 m 4 ls []) rfl ?_
  refine lv_aload_n hx hb dX1_init_4 rfl (lv_at hl 0 rfl) ?_
  refine lv_bipush hx hb dX1_init_5 (n_i8 (n := 12) (by decide)) ?_
  refine va_newa (n := Int32.ofInt 12) (N' := 12) (a0 := (12, .inl (fun _ => 0))) (atype := .int) (ty := .int) hx hb (hg (.arrayClass .int) (gtb_in (by decide +kernel) rfl)) rfl hK hP hD hS hA (fun _ => vp_cell_i _ _ _) (by decide) (by decide) (by decide) (Nat.le_of_ble_eq_true rfl) (Nat.le_of_ble_eq_true rfl) dX1_init_7 (fun q0 c0 H hK hP hD hS => ?_)
  have hP : va_P D vwCl [(h0, .inr (1, [.null, .null, .null, .null, .null, .null, .null, .int 0])), (q0, .inl (c0, 12, .inl (fun _ => 0)))] H := hP
  have hD : va_D A [(h0, .inr (1, [.null, .null, .null, .null, .null, .null, .null, .int 0])), (q0, .inl (c0, 12, .inl (fun _ => 0)))] := hD
  have hK : va_K D vwCl [(c0, .int)] s := hK
  refine va_putF (D := D) (ci := 1) (v := .ref q0) (ty := .array .int) (C := RX1) (T := TX1) (N := 8) hx hb hg inGX1 tyX1 tyX1_ok nmX1 hown hK hP hD hS 0 rfl rfl 1 (by decide) (hg (.fieldLink RX1 9 "LazyNames$Names" "arity" "[I") (gtb_in (by decide +kernel) rfl)) (fun _ h9 => h9) rfl hin rfl (by decide +kernel) rfl rfl (Nat.le_of_ble_eq_true rfl) dX1_init_9 (fun H locs hP hD hS => ?_)
  have hP : va_P D vwCl [(h0, .inr (1, [.null, .ref q0, .null, .null, .null, .null, .null, .int 0])), (q0, .inl (c0, 12, .inl (fun _ => 0)))] H := hP
  have hD : va_D A [(h0, .inr (1, [.null, .ref q0, .null, .null, .null, .null, .null, .int 0])), (q0, .inl (c0, 12, .inl (fun _ => 0)))] := hD
  refine lv_aload_n hx hb dX1_init_12 rfl (lv_at hl 0 rfl) ?_
  refine lv_bipush hx hb dX1_init_13 (n_i8 (n := 12) (by decide)) ?_
  refine va_newa (n := Int32.ofInt 12) (N' := 12) (a0 := (12, .inl (fun _ => 0))) (atype := .int) (ty := .int) hx hb (hg (.arrayClass .int) (gtb_in (by decide +kernel) rfl)) rfl hK hP hD hS hA (fun _ => vp_cell_i _ _ _) (by decide) (by decide) (by decide) (Nat.le_of_ble_eq_true rfl) (Nat.le_of_ble_eq_true rfl) dX1_init_15 (fun q1 c1 H hK hP hD hS => ?_)
  have hP : va_P D vwCl [(h0, .inr (1, [.null, .ref q0, .null, .null, .null, .null, .null, .int 0])), (q0, .inl (c0, 12, .inl (fun _ => 0))), (q1, .inl (c1, 12, .inl (fun _ => 0)))] H := hP
  have hD : va_D A [(h0, .inr (1, [.null, .ref q0, .null, .null, .null, .null, .null, .int 0])), (q0, .inl (c0, 12, .inl (fun _ => 0))), (q1, .inl (c1, 12, .inl (fun _ => 0)))] := hD
  have hK : va_K D vwCl [(c0, .int), (c1, .int)] s := hK
  refine va_putF (D := D) (ci := 1) (v := .ref q1) (ty := .array .int) (C := RX1) (T := TX1) (N := 8) hx hb hg inGX1 tyX1 tyX1_ok nmX1 hown hK hP hD hS 0 rfl rfl 2 (by decide) (hg (.fieldLink RX1 15 "LazyNames$Names" "definition" "[I") (gtb_in (by decide +kernel) rfl)) (fun _ h9 => h9) rfl hin rfl (by decide +kernel) rfl rfl (Nat.le_of_ble_eq_true rfl) dX1_init_17 (fun H locs hP hD hS => ?_)
  have hP : va_P D vwCl [(h0, .inr (1, [.null, .ref q0, .ref q1, .null, .null, .null, .null, .int 0])), (q0, .inl (c0, 12, .inl (fun _ => 0))), (q1, .inl (c1, 12, .inl (fun _ => 0)))] H := hP
  have hD : va_D A [(h0, .inr (1, [.null, .ref q0, .ref q1, .null, .null, .null, .null, .int 0])), (q0, .inl (c0, 12, .inl (fun _ => 0))), (q1, .inl (c1, 12, .inl (fun _ => 0)))] := hD
  refine lv_aload_n hx hb dX1_init_20 rfl (lv_at hl 0 rfl) ?_
  refine lv_bipush hx hb dX1_init_21 (n_i8 (n := 12) (by decide)) ?_
  refine va_newa (n := Int32.ofInt 12) (N' := 12) (a0 := (12, .inl (fun _ => 0))) (atype := .boolean) (ty := .boolean) hx hb (hg (.arrayClass .boolean) (gtb_in (by decide +kernel) rfl)) rfl hK hP hD hS hA (fun _ => vp_cell_i _ _ _) (by decide) (by decide) (by decide) (Nat.le_of_ble_eq_true rfl) (Nat.le_of_ble_eq_true rfl) dX1_init_23 (fun q2 c2 H hK hP hD hS => ?_)
  have hP : va_P D vwCl [(h0, .inr (1, [.null, .ref q0, .ref q1, .null, .null, .null, .null, .int 0])), (q0, .inl (c0, 12, .inl (fun _ => 0))), (q1, .inl (c1, 12, .inl (fun _ => 0))), (q2, .inl (c2, 12, .inl (fun _ => 0)))] H := hP
  have hD : va_D A [(h0, .inr (1, [.null, .ref q0, .ref q1, .null, .null, .null, .null, .int 0])), (q0, .inl (c0, 12, .inl (fun _ => 0))), (q1, .inl (c1, 12, .inl (fun _ => 0))), (q2, .inl (c2, 12, .inl (fun _ => 0)))] := hD
  have hK : va_K D vwCl [(c0, .int), (c1, .int), (c2, .boolean)] s := hK
  refine va_putF (D := D) (ci := 1) (v := .ref q2) (ty := .array .boolean) (C := RX1) (T := TX1) (N := 8) hx hb hg inGX1 tyX1 tyX1_ok nmX1 hown hK hP hD hS 0 rfl rfl 3 (by decide) (hg (.fieldLink RX1 18 "LazyNames$Names" "opaque" "[Z") (gtb_in (by decide +kernel) rfl)) (fun _ h9 => h9) rfl hin rfl (by decide +kernel) rfl rfl (Nat.le_of_ble_eq_true rfl) dX1_init_25 (fun H locs hP hD hS => ?_)
  have hP : va_P D vwCl [(h0, .inr (1, [.null, .ref q0, .ref q1, .ref q2, .null, .null, .null, .int 0])), (q0, .inl (c0, 12, .inl (fun _ => 0))), (q1, .inl (c1, 12, .inl (fun _ => 0))), (q2, .inl (c2, 12, .inl (fun _ => 0)))] H := hP
  have hD : va_D A [(h0, .inr (1, [.null, .ref q0, .ref q1, .ref q2, .null, .null, .null, .int 0])), (q0, .inl (c0, 12, .inl (fun _ => 0))), (q1, .inl (c1, 12, .inl (fun _ => 0))), (q2, .inl (c2, 12, .inl (fun _ => 0)))] := hD
  refine lv_aload_n hx hb dX1_init_28 rfl (lv_at hl 0 rfl) ?_
  refine lv_bipush hx hb dX1_init_29 (n_i8 (n := 12) (by decide)) ?_
  refine va_newa (n := Int32.ofInt 12) (N' := 12) (a0 := (12, .inl (fun _ => 0))) (atype := .int) (ty := .int) hx hb (hg (.arrayClass .int) (gtb_in (by decide +kernel) rfl)) rfl hK hP hD hS hA (fun _ => vp_cell_i _ _ _) (by decide) (by decide) (by decide) (Nat.le_of_ble_eq_true rfl) (Nat.le_of_ble_eq_true rfl) dX1_init_31 (fun q3 c3 H hK hP hD hS => ?_)
  have hP : va_P D vwCl [(h0, .inr (1, [.null, .ref q0, .ref q1, .ref q2, .null, .null, .null, .int 0])), (q0, .inl (c0, 12, .inl (fun _ => 0))), (q1, .inl (c1, 12, .inl (fun _ => 0))), (q2, .inl (c2, 12, .inl (fun _ => 0))), (q3, .inl (c3, 12, .inl (fun _ => 0)))] H := hP
  have hD : va_D A [(h0, .inr (1, [.null, .ref q0, .ref q1, .ref q2, .null, .null, .null, .int 0])), (q0, .inl (c0, 12, .inl (fun _ => 0))), (q1, .inl (c1, 12, .inl (fun _ => 0))), (q2, .inl (c2, 12, .inl (fun _ => 0))), (q3, .inl (c3, 12, .inl (fun _ => 0)))] := hD
  have hK : va_K D vwCl [(c0, .int), (c1, .int), (c2, .boolean), (c3, .int)] s := hK
  refine va_putF (D := D) (ci := 1) (v := .ref q3) (ty := .array .int) (C := RX1) (T := TX1) (N := 8) hx hb hg inGX1 tyX1 tyX1_ok nmX1 hown hK hP hD hS 0 rfl rfl 4 (by decide) (hg (.fieldLink RX1 22 "LazyNames$Names" "height" "[I") (gtb_in (by decide +kernel) rfl)) (fun _ h9 => h9) rfl hin rfl (by decide +kernel) rfl rfl (Nat.le_of_ble_eq_true rfl) dX1_init_33 (fun H locs hP hD hS => ?_)
  have hP : va_P D vwCl [(h0, .inr (1, [.null, .ref q0, .ref q1, .ref q2, .ref q3, .null, .null, .int 0])), (q0, .inl (c0, 12, .inl (fun _ => 0))), (q1, .inl (c1, 12, .inl (fun _ => 0))), (q2, .inl (c2, 12, .inl (fun _ => 0))), (q3, .inl (c3, 12, .inl (fun _ => 0)))] H := hP
  have hD : va_D A [(h0, .inr (1, [.null, .ref q0, .ref q1, .ref q2, .ref q3, .null, .null, .int 0])), (q0, .inl (c0, 12, .inl (fun _ => 0))), (q1, .inl (c1, 12, .inl (fun _ => 0))), (q2, .inl (c2, 12, .inl (fun _ => 0))), (q3, .inl (c3, 12, .inl (fun _ => 0)))] := hD
  refine lv_aload_n hx hb dX1_init_36 rfl (lv_at hl 0 rfl) ?_
  refine lv_bipush hx hb dX1_init_37 (n_i8 (n := 12) (by decide)) ?_
  refine va_newa (n := Int32.ofInt 12) (N' := 12) (a0 := (12, .inl (fun _ => 0))) (atype := .int) (ty := .int) hx hb (hg (.arrayClass .int) (gtb_in (by decide +kernel) rfl)) rfl hK hP hD hS hA (fun _ => vp_cell_i _ _ _) (by decide) (by decide) (by decide) (Nat.le_of_ble_eq_true rfl) (Nat.le_of_ble_eq_true rfl) dX1_init_39 (fun q4 c4 H hK hP hD hS => ?_)
  have hP : va_P D vwCl [(h0, .inr (1, [.null, .ref q0, .ref q1, .ref q2, .ref q3, .null, .null, .int 0])), (q0, .inl (c0, 12, .inl (fun _ => 0))), (q1, .inl (c1, 12, .inl (fun _ => 0))), (q2, .inl (c2, 12, .inl (fun _ => 0))), (q3, .inl (c3, 12, .inl (fun _ => 0))), (q4, .inl (c4, 12, .inl (fun _ => 0)))] H := hP
  have hD : va_D A [(h0, .inr (1, [.null, .ref q0, .ref q1, .ref q2, .ref q3, .null, .null, .int 0])), (q0, .inl (c0, 12, .inl (fun _ => 0))), (q1, .inl (c1, 12, .inl (fun _ => 0))), (q2, .inl (c2, 12, .inl (fun _ => 0))), (q3, .inl (c3, 12, .inl (fun _ => 0))), (q4, .inl (c4, 12, .inl (fun _ => 0)))] := hD
  have hK : va_K D vwCl [(c0, .int), (c1, .int), (c2, .boolean), (c3, .int), (c4, .int)] s := hK
  refine va_putF (D := D) (ci := 1) (v := .ref q4) (ty := .array .int) (C := RX1) (T := TX1) (N := 8) hx hb hg inGX1 tyX1 tyX1_ok nmX1 hown hK hP hD hS 0 rfl rfl 5 (by decide) (hg (.fieldLink RX1 25 "LazyNames$Names" "wholeFront" "[I") (gtb_in (by decide +kernel) rfl)) (fun _ h9 => h9) rfl hin rfl (by decide +kernel) rfl rfl (Nat.le_of_ble_eq_true rfl) dX1_init_41 (fun H locs hP hD hS => ?_)
  have hP : va_P D vwCl [(h0, .inr (1, [.null, .ref q0, .ref q1, .ref q2, .ref q3, .ref q4, .null, .int 0])), (q0, .inl (c0, 12, .inl (fun _ => 0))), (q1, .inl (c1, 12, .inl (fun _ => 0))), (q2, .inl (c2, 12, .inl (fun _ => 0))), (q3, .inl (c3, 12, .inl (fun _ => 0))), (q4, .inl (c4, 12, .inl (fun _ => 0)))] H := hP
  have hD : va_D A [(h0, .inr (1, [.null, .ref q0, .ref q1, .ref q2, .ref q3, .ref q4, .null, .int 0])), (q0, .inl (c0, 12, .inl (fun _ => 0))), (q1, .inl (c1, 12, .inl (fun _ => 0))), (q2, .inl (c2, 12, .inl (fun _ => 0))), (q3, .inl (c3, 12, .inl (fun _ => 0))), (q4, .inl (c4, 12, .inl (fun _ => 0)))] := hD
  refine lv_aload_n hx hb dX1_init_44 rfl (lv_at hl 0 rfl) ?_
  refine lv_iconst (v := Int32.ofInt 4) hx hb dX1_init_45 rfl ?_
  refine lv_bipush hx hb dX1_init_46 (n_i8 (n := 12) (by decide)) ?_
  obtain ⟨cL, kL, cmp, hfL, hkL, hkdL⟩ := Cond.arrayClass_spec (hg (.arrayClass .long) (gtb_in (by decide +kernel) rfl))
  have hKL : va_K D vwCl [(cL, .long)] s := ⟨hK.1, fun k x hx => by
    have h0 : k < 1 := (List.getElem?_eq_some_iff.mp hx).1
    rw [show k = 0 by omega] at hx
    cases hx
    exact ⟨fun n z => ⟨fun k h => (by cases h), kL, hkL, cmp, hkdL⟩, hfL⟩⟩
  refine va_mna (X := [(h0, .inr (1, [.null, .ref q0, .ref q1, .ref q2, .ref q3, .ref q4, .null, .int 0])), (q0, .inl (c0, 12, .inl (fun _ => 0))), (q1, .inl (c1, 12, .inl (fun _ => 0))), (q2, .inl (c2, 12, .inl (fun _ => 0))), (q3, .inl (c3, 12, .inl (fun _ => 0))), (q4, .inl (c4, 12, .inl (fun _ => 0)))]) (L := []) (f := fun _ => .inr (0, [])) (ty := .long) (cy := cL) (n := Int32.ofInt 4) (k := Int32.ofInt 12) (N' := 4) (K' := 12) (z := (12, .inr (.inl (fun _ => 0)))) hx hb hown (hg (.classLink RX1 28 ("[" ++ (FieldType.array .long).toString)) (gtb_in (by decide +kernel) rfl)) hO (hg (.arrayClass .long) (gtb_in (by decide +kernel) rfl)) hfL hK hP hD hS hA (by decide) (by decide) (by decide) (by decide) (by decide) (by decide) (by decide) rfl rfl (Nat.le_of_ble_eq_true rfl) (Nat.le_of_ble_eq_true rfl) (fun c => by
    show ({ cls := c, slots := Array.replicate 12 (.long 0), vm := .none } : Cell) = _
    rw [arrV_new]
    rfl) dX1_init_48 (fun q5 r c5 H _ _ hK hP hD hS => ?_)
  rw [← vr_rows (fun _ _ => List.not_mem_nil), show (List.range 4).map r = [r 0, r 1, r 2, r 3] from rfl] at hP hD
  have er : (fun i => if i < 4 then some (r i) else none) = rows (pk 0 [q0, q1, q2, q3, q4, q5, r 0, r 1, r 2, r 3]) 6 4 := by
    funext i
    match i with
    | 0 => rfl
    | 1 => rfl
    | 2 => rfl
    | 3 => rfl
    | j + 4 =>
      unfold rows
      rw [if_neg (by omega), if_neg (by omega)]
  rw [er] at hP hD
  have hP : va_P D vwCl [(h0, .inr (1, [.null, .ref q0, .ref q1, .ref q2, .ref q3, .ref q4, .null, .int 0])), (q0, .inl (c0, 12, .inl (fun _ => 0))), (q1, .inl (c1, 12, .inl (fun _ => 0))), (q2, .inl (c2, 12, .inl (fun _ => 0))), (q3, .inl (c3, 12, .inl (fun _ => 0))), (q4, .inl (c4, 12, .inl (fun _ => 0))), (q5, .inl (c5, 4, .inr (.inr (.inr (.inr (rows (pk 0 [q0, q1, q2, q3, q4, q5, r 0, r 1, r 2, r 3]) 6 4)))))), (r 0, .inl (cL, 12, .inr (.inl (fun _ => 0)))), (r 1, .inl (cL, 12, .inr (.inl (fun _ => 0)))), (r 2, .inl (cL, 12, .inr (.inl (fun _ => 0)))), (r 3, .inl (cL, 12, .inr (.inl (fun _ => 0))))] H := hP
  have hD : va_D A [(h0, .inr (1, [.null, .ref q0, .ref q1, .ref q2, .ref q3, .ref q4, .null, .int 0])), (q0, .inl (c0, 12, .inl (fun _ => 0))), (q1, .inl (c1, 12, .inl (fun _ => 0))), (q2, .inl (c2, 12, .inl (fun _ => 0))), (q3, .inl (c3, 12, .inl (fun _ => 0))), (q4, .inl (c4, 12, .inl (fun _ => 0))), (q5, .inl (c5, 4, .inr (.inr (.inr (.inr (rows (pk 0 [q0, q1, q2, q3, q4, q5, r 0, r 1, r 2, r 3]) 6 4)))))), (r 0, .inl (cL, 12, .inr (.inl (fun _ => 0)))), (r 1, .inl (cL, 12, .inr (.inl (fun _ => 0)))), (r 2, .inl (cL, 12, .inr (.inl (fun _ => 0)))), (r 3, .inl (cL, 12, .inr (.inl (fun _ => 0))))] := hD
  generalize r 0 = q6 at hP hD
  generalize r 1 = q7 at hP hD
  generalize r 2 = q8 at hP hD
  generalize r 3 = q9 at hP hD
  have hK := (((hK.app hKL).app hKL).app hKL).app hKL
  obtain ⟨c6, f6⟩ : ∃ z, z = cL := ⟨_, rfl⟩
  obtain ⟨c7, f7⟩ : ∃ z, z = cL := ⟨_, rfl⟩
  obtain ⟨c8, f8⟩ : ∃ z, z = cL := ⟨_, rfl⟩
  obtain ⟨c9, f9⟩ : ∃ z, z = cL := ⟨_, rfl⟩
  have hP : va_P D vwCl [(h0, .inr (1, [.null, .ref q0, .ref q1, .ref q2, .ref q3, .ref q4, .null, .int 0])), (q0, .inl (c0, 12, .inl (fun _ => 0))), (q1, .inl (c1, 12, .inl (fun _ => 0))), (q2, .inl (c2, 12, .inl (fun _ => 0))), (q3, .inl (c3, 12, .inl (fun _ => 0))), (q4, .inl (c4, 12, .inl (fun _ => 0))), (q5, .inl (c5, 4, .inr (.inr (.inr (.inr (rows (pk 0 [q0, q1, q2, q3, q4, q5, q6, q7, q8, q9]) 6 4)))))), (q6, .inl (c6, 12, .inr (.inl (fun _ => 0)))), (q7, .inl (c7, 12, .inr (.inl (fun _ => 0)))), (q8, .inl (c8, 12, .inr (.inl (fun _ => 0)))), (q9, .inl (c9, 12, .inr (.inl (fun _ => 0))))] H := by rw [f6, f7, f8, f9]; exact hP
  have hD : va_D A [(h0, .inr (1, [.null, .ref q0, .ref q1, .ref q2, .ref q3, .ref q4, .null, .int 0])), (q0, .inl (c0, 12, .inl (fun _ => 0))), (q1, .inl (c1, 12, .inl (fun _ => 0))), (q2, .inl (c2, 12, .inl (fun _ => 0))), (q3, .inl (c3, 12, .inl (fun _ => 0))), (q4, .inl (c4, 12, .inl (fun _ => 0))), (q5, .inl (c5, 4, .inr (.inr (.inr (.inr (rows (pk 0 [q0, q1, q2, q3, q4, q5, q6, q7, q8, q9]) 6 4)))))), (q6, .inl (c6, 12, .inr (.inl (fun _ => 0)))), (q7, .inl (c7, 12, .inr (.inl (fun _ => 0)))), (q8, .inl (c8, 12, .inr (.inl (fun _ => 0)))), (q9, .inl (c9, 12, .inr (.inl (fun _ => 0))))] := by rw [f6, f7, f8, f9]; exact hD
  have hK : va_K D vwCl [(c0, .int), (c1, .int), (c2, .boolean), (c3, .int), (c4, .int), (c5, .array .long), (c6, .long), (c7, .long), (c8, .long), (c9, .long)] s := by rw [f6, f7, f8, f9]; exact hK
  refine va_putF (D := D) (ci := 1) (v := .ref q5) (ty := .array (.array .long)) (C := RX1) (T := TX1) (N := 8) hx hb hg inGX1 tyX1 tyX1_ok nmX1 hown hK hP hD hS 0 rfl rfl 6 (by decide) (hg (.fieldLink RX1 30 "LazyNames$Names" "counted" "[[J") (gtb_in (by decide +kernel) rfl)) (fun _ h9 => h9) rfl hin rfl (by decide +kernel) rfl rfl (Nat.le_of_ble_eq_true rfl) dX1_init_52 (fun H locs hP hD hS => ?_)
  have hP : va_P D vwCl [(h0, .inr (1, [.null, .ref q0, .ref q1, .ref q2, .ref q3, .ref q4, .ref q5, .int 0])), (q0, .inl (c0, 12, .inl (fun _ => 0))), (q1, .inl (c1, 12, .inl (fun _ => 0))), (q2, .inl (c2, 12, .inl (fun _ => 0))), (q3, .inl (c3, 12, .inl (fun _ => 0))), (q4, .inl (c4, 12, .inl (fun _ => 0))), (q5, .inl (c5, 4, .inr (.inr (.inr (.inr (rows (pk 0 [q0, q1, q2, q3, q4, q5, q6, q7, q8, q9]) 6 4)))))), (q6, .inl (c6, 12, .inr (.inl (fun _ => 0)))), (q7, .inl (c7, 12, .inr (.inl (fun _ => 0)))), (q8, .inl (c8, 12, .inr (.inl (fun _ => 0)))), (q9, .inl (c9, 12, .inr (.inl (fun _ => 0))))] H := hP
  have hD : va_D A [(h0, .inr (1, [.null, .ref q0, .ref q1, .ref q2, .ref q3, .ref q4, .ref q5, .int 0])), (q0, .inl (c0, 12, .inl (fun _ => 0))), (q1, .inl (c1, 12, .inl (fun _ => 0))), (q2, .inl (c2, 12, .inl (fun _ => 0))), (q3, .inl (c3, 12, .inl (fun _ => 0))), (q4, .inl (c4, 12, .inl (fun _ => 0))), (q5, .inl (c5, 4, .inr (.inr (.inr (.inr (rows (pk 0 [q0, q1, q2, q3, q4, q5, q6, q7, q8, q9]) 6 4)))))), (q6, .inl (c6, 12, .inr (.inl (fun _ => 0)))), (q7, .inl (c7, 12, .inr (.inl (fun _ => 0)))), (q8, .inl (c8, 12, .inr (.inl (fun _ => 0)))), (q9, .inl (c9, 12, .inr (.inl (fun _ => 0))))] := hD
  refine lv_aload_n hx hb dX1_init_55 rfl (lv_at hl 0 rfl) ?_
  refine lv_aload_n hx hb dX1_init_56 rfl (lv_at hl 1 rfl) ?_
  refine va_putF (D := D) (ci := 1) (v := .ref h1) (ty := .object "LazyNames$Terms") (C := RX1) (T := TX1) (N := 8) hx hb hg inGX1 tyX1 tyX1_ok nmX1 hown hK hP hD hS 0 rfl rfl 0 (by decide) (hg (.fieldLink RX1 33 "LazyNames$Names" "terms" "LLazyNames$Terms;") (gtb_in (by decide +kernel) rfl)) (fun _ h9 => h9) rfl hin rfl (by decide +kernel) rfl rfl (Nat.le_of_ble_eq_true rfl) dX1_init_57 (fun H locs hP hD hS => ?_)
  have hP : va_P D vwCl [(h0, .inr (1, [.ref h1, .ref q0, .ref q1, .ref q2, .ref q3, .ref q4, .ref q5, .int 0])), (q0, .inl (c0, 12, .inl (fun _ => 0))), (q1, .inl (c1, 12, .inl (fun _ => 0))), (q2, .inl (c2, 12, .inl (fun _ => 0))), (q3, .inl (c3, 12, .inl (fun _ => 0))), (q4, .inl (c4, 12, .inl (fun _ => 0))), (q5, .inl (c5, 4, .inr (.inr (.inr (.inr (rows (pk 0 [q0, q1, q2, q3, q4, q5, q6, q7, q8, q9]) 6 4)))))), (q6, .inl (c6, 12, .inr (.inl (fun _ => 0)))), (q7, .inl (c7, 12, .inr (.inl (fun _ => 0)))), (q8, .inl (c8, 12, .inr (.inl (fun _ => 0)))), (q9, .inl (c9, 12, .inr (.inl (fun _ => 0))))] H := hP
  have hD : va_D A [(h0, .inr (1, [.ref h1, .ref q0, .ref q1, .ref q2, .ref q3, .ref q4, .ref q5, .int 0])), (q0, .inl (c0, 12, .inl (fun _ => 0))), (q1, .inl (c1, 12, .inl (fun _ => 0))), (q2, .inl (c2, 12, .inl (fun _ => 0))), (q3, .inl (c3, 12, .inl (fun _ => 0))), (q4, .inl (c4, 12, .inl (fun _ => 0))), (q5, .inl (c5, 4, .inr (.inr (.inr (.inr (rows (pk 0 [q0, q1, q2, q3, q4, q5, q6, q7, q8, q9]) 6 4)))))), (q6, .inl (c6, 12, .inr (.inl (fun _ => 0)))), (q7, .inl (c7, 12, .inr (.inl (fun _ => 0)))), (q8, .inl (c8, 12, .inr (.inl (fun _ => 0)))), (q9, .inl (c9, 12, .inr (.inl (fun _ => 0))))] := hD
  refine lv_aload_n hx hb dX1_init_60 rfl (lv_at hl 0 rfl) ?_
  refine lv_iconst (v := Int32.ofInt 0) hx hb dX1_init_61 rfl ?_
  refine va_put (D := D) (ci := 1) (v := .int (Int32.ofInt 0)) (ty := .int) (C := RX1) (T := TX1) (N := 8) hx hb hg inGX1 tyX1 tyX1_ok nmX1 hown hK hP hD hS 0 rfl rfl 7 (by decide) (hg (.fieldLink RX1 37 "LazyNames$Names" "came" "I") (gtb_in (by decide +kernel) rfl)) (fun _ h9 => h9) rfl (by decide +kernel) rfl rfl (Nat.le_of_ble_eq_true rfl) dX1_init_62 (fun H locs hP hD hS => ?_)
  have hP : va_P D vwCl [(h0, .inr (1, [.ref h1, .ref q0, .ref q1, .ref q2, .ref q3, .ref q4, .ref q5, .int 0])), (q0, .inl (c0, 12, .inl (fun _ => 0))), (q1, .inl (c1, 12, .inl (fun _ => 0))), (q2, .inl (c2, 12, .inl (fun _ => 0))), (q3, .inl (c3, 12, .inl (fun _ => 0))), (q4, .inl (c4, 12, .inl (fun _ => 0))), (q5, .inl (c5, 4, .inr (.inr (.inr (.inr (rows (pk 0 [q0, q1, q2, q3, q4, q5, q6, q7, q8, q9]) 6 4)))))), (q6, .inl (c6, 12, .inr (.inl (fun _ => 0)))), (q7, .inl (c7, 12, .inr (.inl (fun _ => 0)))), (q8, .inl (c8, 12, .inr (.inl (fun _ => 0)))), (q9, .inl (c9, 12, .inr (.inl (fun _ => 0))))] H := hP
  have hD : va_D A [(h0, .inr (1, [.ref h1, .ref q0, .ref q1, .ref q2, .ref q3, .ref q4, .ref q5, .int 0])), (q0, .inl (c0, 12, .inl (fun _ => 0))), (q1, .inl (c1, 12, .inl (fun _ => 0))), (q2, .inl (c2, 12, .inl (fun _ => 0))), (q3, .inl (c3, 12, .inl (fun _ => 0))), (q4, .inl (c4, 12, .inl (fun _ => 0))), (q5, .inl (c5, 4, .inr (.inr (.inr (.inr (rows (pk 0 [q0, q1, q2, q3, q4, q5, q6, q7, q8, q9]) 6 4)))))), (q6, .inl (c6, 12, .inr (.inl (fun _ => 0)))), (q7, .inl (c7, 12, .inr (.inl (fun _ => 0)))), (q8, .inl (c8, 12, .inr (.inl (fun _ => 0)))), (q9, .inl (c9, 12, .inr (.inl (fun _ => 0))))] := hD
  refine W.widen (k := 10) (n := 112) (Nat.le_of_ble_eq_true rfl) (Nat.le_of_ble_eq_true rfl) ?_
  exact W.vret hx hb hr (fun t ht hW => ⟨⟨(pk 0 [q0, q1, q2, q3, q4, q5, q6, q7, q8, q9], pk 0 [c0, c1, c2, c3, c4, c5, c6, c7, c8, c9]), rfl, trivial, by rw [ht]; exact hP, va_K.moved hW.alike hK, hD⟩, hS.F ht⟩) hS.2.2 dX1_init_65
