theorem lcm_self (r : Int) : lcm r r = 0 := by
  unfold lcm
  split
  · omega
  · split
    · rfl
    · omega
theorem lw_boo {p : Program} {l : Launch} {e : Env} {R : Room} {s : State} {m : MethodId} {args : Array Value} {below : List Frame} {meth : Method} {c : Code} {H : Heap} {locs : List Loc} {cells slots pc : Nat} {Q : State → Prop} {ls : Array Slot} {rest : List Value} {cc : ByteArray} {x : Int32} {y : Int} (hx : p.tables.exec = Jvm.exec) (hb : c.code = cc) (hy : b01 y) (hxy : x = 0 ↔ y = 0) (d1 : decode cc pc = .ok (.ifCond .eq 7, 3)) (d2 : decode cc (pc + 3) = .ok (.iconst 1, 1)) (d3 : decode cc (pc + 4) = .ok (.goto 4, 3)) (d4 : decode cc (pc + 7) = .ok (.iconst 0, 1))
    (kk : W p l e R s m args below meth c H locs cells slots Q (F0 m (pc + 8) ls (vi y :: rest))) : W p l e R s m args below meth c H locs cells slots Q (F0 m pc ls (.int x :: rest)) := by
  refine lv_if_eq (tgt := pc + 7) hx hb d1 (by omega) (fun h => ?_) (fun h => ?_)
  · have e0 : y = 0 := hxy.mp h
    subst e0
    exact lv_iconst (v := 0) hx hb d4 (by decide) kk
  · have e1 : y = 1 := by
      rcases hy with z | z
      · exact absurd (hxy.mpr z) h
      · exact z
    subst e1
    exact lv_iconst (v := 1) hx hb d2 (by decide) (lv_goto (tgt := pc + 8) hx hb d3 (by omega) kk)
set_option maxHeartbeats 1500000 in
theorem law_4 {p : Program} {l : Launch} {e : Env} {s : State} {m : MethodId} {below : List Frame} {meth : Method} {c : Code} {b L : Nat} {xs : Nat → Int32} {D : va_G} {ad bd : Nat → Nat} {cA cB : Nat → ClassId} {k : Int} {C M : Mem} {H : Heap} {locs : List Loc} {cells slots : Nat} {ls : Array Slot} {x3 : Int32} {Z : State → Prop} (C0 : lw_At p s m meth c b L xs) (F : LF (xC l D ad cA) (xM l D bd cB) s) (I : LI (xC l D ad cA) (xM l D bd cB) s k C M H locs) (hk : k ≤ 900) (hcs : cells ≤ 600000 ∧ slots ≤ 7302250) (hl : lv_has ls 4 [(3, .int x3), (2, .ref (bd 0)), (1, .ref (ad 0)), (0, .ref b)]) (h1 : vp_in (x3 + 1) L) (h2 : vp_in (x3 + 2) L) (h3 : vp_in (x3 + 3) L) (kk : ∀ (C' M' : Mem) (H' : Heap) (locs' : List Loc), LI (xC l D ad cA) (xM l D bd cB) s (k + 1) C' M' H' locs' → W p l e room_1 s m #[Value.ref b] below meth c H' locs' cells slots Z (F0 m 469 ls [])) : W p l e room_1 s m #[Value.ref b] below meth c H locs cells slots Z (F0 m 218 ls []) := by
  obtain ⟨hx, hb, hr, hml, hown, hts, hX, hbl, hlocks, hgv⟩ := C0
  have hg : ∀ w ∈ gtb, w.before #[Value.ref b] s = true := fun w hw => hts w (List.mem_filter.mp hw).1
  have hbA : ¬ (fun q : Nat => s.heap.size ≤ q) b := Nat.not_le.mpr hbl
  obtain ⟨⟨hKC, hKM⟩, hDC, hDM, hAC, hAM, hdis⟩ := F
  obtain ⟨hR, hRC, hRM, hPC, hPM, hS⟩ := I
  obtain ⟨a1, ea1, ra1⟩ := i32v (xs (x3 + 1).toNatClampNeg)
  obtain ⟨a2, ea2, ra2⟩ := i32v (xs (x3 + 2).toNatClampNeg)
  obtain ⟨y2, hy2, hxy2⟩ : ∃ y : Int, b01 y ∧ (Int32.ofInt a2 = 0 ↔ y = 0) := by
    by_cases z : Int32.ofInt a2 = 0
    · exact ⟨0, Or.inl rfl, fun _ => rfl, fun _ => z⟩
    · exact ⟨1, Or.inr rfl, fun q => absurd q z, fun q => absurd q (by decide)⟩
  have ry2 : rg y2 := rg_b hy2
  refine lv_aload_n hx hb dL_law_218 rfl (lv_at hl 2 rfl) ?_
  refine lv_aload_n hx hb dL_law_219 rfl (lv_at hl 3 rfl) ?_
  refine lv_iload_n hx hb dL_law_220 rfl (lv_at hl 0 rfl) ?_
  refine lv_iconst (v := 1) hx hb dL_law_221 (by decide) ?_
  refine lv_iadd hx hb dL_law_222 ?_
  refine va_sld hx hb hX hbl hbA hS h1 dL_law_223 ?_
  rw [ea1]
  refine lv_aload_n hx hb dL_law_224 rfl (lv_at hl 3 rfl) ?_
  refine lv_iload_n hx hb dL_law_225 rfl (lv_at hl 0 rfl) ?_
  refine lv_iconst (v := 2) hx hb dL_law_226 (by decide) ?_
  refine lv_iadd hx hb dL_law_227 ?_
  refine va_sld hx hb hX hbl hbA hS h2 dL_law_228 ?_
  rw [ea2]
  refine lw_boo hx hb (y := y2) hy2 hxy2 dL_law_229 dL_law_232 dL_law_233 dL_law_236 ?_
  refine lw_cv (X := (xC l D ad cA)) (M := C) (As := [vi a1, vi y2]) (rest := []) (ci := 3) (index := 32) (y := yX3_opaque) (mc' := mX3_opaque) (n := 2) hx hb hml hown hg (Nat.le_of_ble_eq_true rfl) rfl rfl hKC hDC hPC hRC (gtb_in (by decide +kernel) rfl) (gtb_in (by decide +kernel) rfl) (gtb_in (by decide +kernel) rfl) (gtb_in (by decide +kernel) rfl) (gtb_in (by decide +kernel) rfl) (by decide +kernel) rfl ⟨rfl, rfl⟩ ⟨Nat.le_of_ble_eq_true rfl, Nat.le_of_ble_eq_true rfl⟩ (Nat.le_of_ble_eq_true rfl) hl.1 rfl dL_law_237 hcs (s_X3_opaque ra1 ry2 (p_opaque hR hy2)) hS hAC (fun v C1 H1 locs1 hq hRC hPC hk1 hS => ?_)
  obtain ⟨r, rfl, rr, hQ⟩ := hq
  have hPM := keep_w hPM hk1 (fun q z y => hdis q y z)
  refine lv_aload_n hx hb dL_law_240 rfl (lv_at hl 1 rfl) ?_
  refine lv_aload_n hx hb dL_law_241 rfl (lv_at hl 3 rfl) ?_
  refine lv_iload_n hx hb dL_law_242 rfl (lv_at hl 0 rfl) ?_
  refine lv_iconst (v := 1) hx hb dL_law_243 (by decide) ?_
  refine lv_iadd hx hb dL_law_244 ?_
  refine va_sld hx hb hX hbl hbA hS h1 dL_law_245 ?_
  rw [ea1]
  refine lv_aload_n hx hb dL_law_246 rfl (lv_at hl 3 rfl) ?_
  refine lv_iload_n hx hb dL_law_247 rfl (lv_at hl 0 rfl) ?_
  refine lv_iconst (v := 2) hx hb dL_law_248 (by decide) ?_
  refine lv_iadd hx hb dL_law_249 ?_
  refine va_sld hx hb hX hbl hbA hS h2 dL_law_250 ?_
  rw [ea2]
  refine lw_boo hx hb (y := y2) hy2 hxy2 dL_law_251 dL_law_254 dL_law_255 dL_law_258 ?_
  refine lw_cv (X := (xM l D bd cB)) (M := M) (As := [vi a1, vi y2]) (rest := [vi r]) (ci := 4) (index := 36) (y := yX4_opaque) (mc' := mX4_opaque) (n := 2) hx hb hml hown hg (Nat.le_of_ble_eq_true rfl) rfl rfl hKM hDM hPM hRM (gtb_in (by decide +kernel) rfl) (gtb_in (by decide +kernel) rfl) (gtb_in (by decide +kernel) rfl) (gtb_in (by decide +kernel) rfl) (gtb_in (by decide +kernel) rfl) (by decide +kernel) rfl ⟨rfl, rfl⟩ ⟨Nat.le_of_ble_eq_true rfl, Nat.le_of_ble_eq_true rfl⟩ (Nat.le_of_ble_eq_true rfl) hl.1 rfl dL_law_259 hcs (s_X4_opaque ra1 ry2 hQ) hS hAM (fun v M1 H1 locs1 hq hRM hPM hk1 hS => ?_)
  obtain ⟨r2, rfl, rr2, hQ⟩ := hq
  have hPC := keep_w hPC hk1 hdis
  obtain ⟨rfl, hR2⟩ := hQ
  exact lv_icmp_eq (tgt := 469) hx hb dL_law_262 (by decide) (fun _ => kk C1 M1 H1 locs1 ⟨hR2, hRC, hRM, hPC, hPM, hS⟩) (fun z => absurd rfl z)
set_option maxHeartbeats 1500000 in
theorem law_7 {p : Program} {l : Launch} {e : Env} {s : State} {m : MethodId} {below : List Frame} {meth : Method} {c : Code} {b L : Nat} {xs : Nat → Int32} {D : va_G} {ad bd : Nat → Nat} {cA cB : Nat → ClassId} {k : Int} {C M : Mem} {H : Heap} {locs : List Loc} {cells slots : Nat} {ls : Array Slot} {x3 : Int32} {Z : State → Prop} (C0 : lw_At p s m meth c b L xs) (F : LF (xC l D ad cA) (xM l D bd cB) s) (I : LI (xC l D ad cA) (xM l D bd cB) s k C M H locs) (hk : k ≤ 900) (hcs : cells ≤ 600000 ∧ slots ≤ 7302250) (hl : lv_has ls 4 [(3, .int x3), (2, .ref (bd 0)), (1, .ref (ad 0)), (0, .ref b)]) (h1 : vp_in (x3 + 1) L) (h2 : vp_in (x3 + 2) L) (h3 : vp_in (x3 + 3) L) (kk : ∀ (C' M' : Mem) (H' : Heap) (locs' : List Loc), LI (xC l D ad cA) (xM l D bd cB) s (k + 1) C' M' H' locs' → W p l e room_1 s m #[Value.ref b] below meth c H' locs' cells slots Z (F0 m 469 ls [])) : W p l e room_1 s m #[Value.ref b] below meth c H locs cells slots Z (F0 m 333 ls []) := by
  obtain ⟨hx, hb, hr, hml, hown, hts, hX, hbl, hlocks, hgv⟩ := C0
  have hg : ∀ w ∈ gtb, w.before #[Value.ref b] s = true := fun w hw => hts w (List.mem_filter.mp hw).1
  have hbA : ¬ (fun q : Nat => s.heap.size ≤ q) b := Nat.not_le.mpr hbl
  obtain ⟨⟨hKC, hKM⟩, hDC, hDM, hAC, hAM, hdis⟩ := F
  obtain ⟨hR, hRC, hRM, hPC, hPM, hS⟩ := I
  obtain ⟨a1, ea1, ra1⟩ := i32v (xs (x3 + 1).toNatClampNeg)
  obtain ⟨a2, ea2, ra2⟩ := i32v (xs (x3 + 2).toNatClampNeg)
  refine lv_aload_n hx hb dL_law_333 rfl (lv_at hl 2 rfl) ?_
  refine lv_aload_n hx hb dL_law_334 rfl (lv_at hl 3 rfl) ?_
  refine lv_iload_n hx hb dL_law_335 rfl (lv_at hl 0 rfl) ?_
  refine lv_iconst (v := 1) hx hb dL_law_336 (by decide) ?_
  refine lv_iadd hx hb dL_law_337 ?_
  refine va_sld hx hb hX hbl hbA hS h1 dL_law_338 ?_
  rw [ea1]
  refine lv_aload_n hx hb dL_law_339 rfl (lv_at hl 3 rfl) ?_
  refine lv_iload_n hx hb dL_law_340 rfl (lv_at hl 0 rfl) ?_
  refine lv_iconst (v := 2) hx hb dL_law_341 (by decide) ?_
  refine lv_iadd hx hb dL_law_342 ?_
  refine va_sld hx hb hX hbl hbA hS h2 dL_law_343 ?_
  rw [ea2]
  refine lw_cv (X := (xC l D ad cA)) (M := C) (As := [vi a1, vi a2]) (rest := []) (ci := 3) (index := 45) (y := yX3_size) (mc' := mX3_size) (n := 2) hx hb hml hown hg (Nat.le_of_ble_eq_true rfl) rfl rfl hKC hDC hPC hRC (gtb_in (by decide +kernel) rfl) (gtb_in (by decide +kernel) rfl) (gtb_in (by decide +kernel) rfl) (gtb_in (by decide +kernel) rfl) (gtb_in (by decide +kernel) rfl) (by decide +kernel) rfl ⟨rfl, rfl⟩ ⟨Nat.le_of_ble_eq_true rfl, Nat.le_of_ble_eq_true rfl⟩ (Nat.le_of_ble_eq_true rfl) hl.1 rfl dL_law_344 hcs (s_X3_size ra1 ra2 (p_size hR)) hS hAC (fun v C1 H1 locs1 hq hRC hPC hk1 hS => ?_)
  obtain ⟨r, rfl, rr, hQ⟩ := hq
  have hPM := keep_w hPM hk1 (fun q z y => hdis q y z)
  refine lv_aload_n hx hb dL_law_347 rfl (lv_at hl 1 rfl) ?_
  refine lv_aload_n hx hb dL_law_348 rfl (lv_at hl 3 rfl) ?_
  refine lv_iload_n hx hb dL_law_349 rfl (lv_at hl 0 rfl) ?_
  refine lv_iconst (v := 1) hx hb dL_law_350 (by decide) ?_
  refine lv_iadd hx hb dL_law_351 ?_
  refine va_sld hx hb hX hbl hbA hS h1 dL_law_352 ?_
  rw [ea1]
  refine lv_aload_n hx hb dL_law_353 rfl (lv_at hl 3 rfl) ?_
  refine lv_iload_n hx hb dL_law_354 rfl (lv_at hl 0 rfl) ?_
  refine lv_iconst (v := 2) hx hb dL_law_355 (by decide) ?_
  refine lv_iadd hx hb dL_law_356 ?_
  refine va_sld hx hb hX hbl hbA hS h2 dL_law_357 ?_
  rw [ea2]
  refine lw_cv (X := (xM l D bd cB)) (M := M) (As := [vi a1, vi a2]) (rest := [vl r]) (ci := 4) (index := 49) (y := yX4_size) (mc' := mX4_size) (n := 2) hx hb hml hown hg (Nat.le_of_ble_eq_true rfl) rfl rfl hKM hDM hPM hRM (gtb_in (by decide +kernel) rfl) (gtb_in (by decide +kernel) rfl) (gtb_in (by decide +kernel) rfl) (gtb_in (by decide +kernel) rfl) (gtb_in (by decide +kernel) rfl) (by decide +kernel) rfl ⟨rfl, rfl⟩ ⟨Nat.le_of_ble_eq_true rfl, Nat.le_of_ble_eq_true rfl⟩ (Nat.le_of_ble_eq_true rfl) hl.1 rfl dL_law_358 hcs (s_X4_size ra1 ra2 hQ) hS hAM (fun v M1 H1 locs1 hq hRM hPM hk1 hS => ?_)
  obtain ⟨r2, rfl, rr2, hQ⟩ := hq
  have hPC := keep_w hPC hk1 hdis
  obtain ⟨rfl, hR2⟩ := hQ
  refine W.lcmp hx hb dL_law_361 ?_
  rw [lcm_I rr rr]
  have z0 : Int32.ofInt (lcm r r) = 0 := by rw [lcm_self]; rfl
  exact lv_if_eq (tgt := 469) hx hb dL_law_362 (by decide) (fun _ => kk C1 M1 H1 locs1 ⟨hR2, hRC, hRM, hPC, hPM, hS⟩) (fun z => absurd z0 z)
