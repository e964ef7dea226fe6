theorem i32v (x : Int32) : ∃ a : Int, x = Int32.ofInt a ∧ rg a := ⟨x.toInt, (Int32.ofInt_toInt x).symm, ⟨Int32.minValue_le_toInt x, Int32.toInt_le x⟩⟩
set_option maxHeartbeats 1500000 in
theorem law_0 {p : Program} {l : Launch} {e : Env} {s : State} {m : MethodId} {below : List Frame} {meth : Method} {c : Code} {b L : Nat} {xs : Nat → Int32} {D : va_G} {ad bd : Nat → Nat} {cA cB : Nat → ClassId} {k : Int} {C M : Mem} {H : Heap} {locs : List Loc} {cells slots : Nat} {ls : Array Slot} {x3 : Int32} {Z : State → Prop} (C0 : lw_At p s m meth c b L xs) (F : LF (xC l D ad cA) (xM l D bd cB) s) (I : LI (xC l D ad cA) (xM l D bd cB) s k C M H locs) (hk : k ≤ 900) (hcs : cells ≤ 600000 ∧ slots ≤ 7302250) (hl : lv_has ls 4 [(3, .int x3), (2, .ref (bd 0)), (1, .ref (ad 0)), (0, .ref b)]) (h1 : vp_in (x3 + 1) L) (h2 : vp_in (x3 + 2) L) (h3 : vp_in (x3 + 3) L) (kk : ∀ (C' M' : Mem) (H' : Heap) (locs' : List Loc), LI (xC l D ad cA) (xM l D bd cB) s (k + 1) C' M' H' locs' → W p l e room_1 s m #[Value.ref b] below meth c H' locs' cells slots Z (F0 m 469 ls [])) : W p l e room_1 s m #[Value.ref b] below meth c H locs cells slots Z (F0 m 96 ls []) := by
  obtain ⟨hx, hb, hr, hml, hown, hts, hX, hbl, hlocks, hgv⟩ := C0
  have hg : ∀ w ∈ gtb, w.before #[Value.ref b] s = true := fun w hw => hts w (List.mem_filter.mp hw).1
  have hbA : ¬ (fun q : Nat => s.heap.size ≤ q) b := Nat.not_le.mpr hbl
  obtain ⟨⟨hKC, hKM⟩, hDC, hDM, hAC, hAM, hdis⟩ := F
  obtain ⟨hR, hRC, hRM, hPC, hPM, hS⟩ := I
  obtain ⟨a1, ea1, ra1⟩ := i32v (xs (x3 + 1).toNatClampNeg)
  refine lv_aload_n hx hb dL_law_96 rfl (lv_at hl 2 rfl) ?_
  refine lv_aload_n hx hb dL_law_97 rfl (lv_at hl 3 rfl) ?_
  refine lv_iload_n hx hb dL_law_98 rfl (lv_at hl 0 rfl) ?_
  refine lv_iconst (v := 1) hx hb dL_law_99 (by decide) ?_
  refine lv_iadd hx hb dL_law_100 ?_
  refine va_sld hx hb hX hbl hbA hS h1 dL_law_101 ?_
  rw [ea1]
  refine lw_cv (X := (xC l D ad cA)) (M := C) (As := [vi a1]) (rest := []) (ci := 3) (index := 13) (y := yX3_name) (mc' := mX3_name) (n := 1) hx hb hml hown hg (Nat.le_of_ble_eq_true rfl) rfl rfl hKC hDC hPC hRC (gtb_in (by decide +kernel) rfl) (gtb_in (by decide +kernel) rfl) (gtb_in (by decide +kernel) rfl) (gtb_in (by decide +kernel) rfl) (gtb_in (by decide +kernel) rfl) (by decide +kernel) rfl ⟨rfl, rfl⟩ ⟨Nat.le_of_ble_eq_true rfl, Nat.le_of_ble_eq_true rfl⟩ (Nat.le_of_ble_eq_true rfl) hl.1 rfl dL_law_102 hcs (s_X3_name ra1 (p_name hR)) hS hAC (fun v C1 H1 locs1 hq hRC hPC hk1 hS => ?_)
  obtain ⟨r, rfl, rr, hQ⟩ := hq
  have hPM := keep_w hPM hk1 (fun q z y => hdis q y z)
  refine lv_aload_n hx hb dL_law_105 rfl (lv_at hl 1 rfl) ?_
  refine lv_aload_n hx hb dL_law_106 rfl (lv_at hl 3 rfl) ?_
  refine lv_iload_n hx hb dL_law_107 rfl (lv_at hl 0 rfl) ?_
  refine lv_iconst (v := 1) hx hb dL_law_108 (by decide) ?_
  refine lv_iadd hx hb dL_law_109 ?_
  refine va_sld hx hb hX hbl hbA hS h1 dL_law_110 ?_
  rw [ea1]
  refine lw_cv (X := (xM l D bd cB)) (M := M) (As := [vi a1]) (rest := [vi r]) (ci := 4) (index := 17) (y := yX4_name) (mc' := mX4_name) (n := 1) hx hb hml hown hg (Nat.le_of_ble_eq_true rfl) rfl rfl hKM hDM hPM hRM (gtb_in (by decide +kernel) rfl) (gtb_in (by decide +kernel) rfl) (gtb_in (by decide +kernel) rfl) (gtb_in (by decide +kernel) rfl) (gtb_in (by decide +kernel) rfl) (by decide +kernel) rfl ⟨rfl, rfl⟩ ⟨Nat.le_of_ble_eq_true rfl, Nat.le_of_ble_eq_true rfl⟩ (Nat.le_of_ble_eq_true rfl) hl.1 rfl dL_law_111 hcs (s_X4_name ra1 hQ) hS hAM (fun v M1 H1 locs1 hq hRM hPM hk1 hS => ?_)
  obtain ⟨r2, rfl, rr2, hQ⟩ := hq
  have hPC := keep_w hPC hk1 hdis
  obtain ⟨rfl, hR2⟩ := hQ
  exact lv_icmp_eq (tgt := 469) hx hb dL_law_114 (by decide) (fun _ => kk C1 M1 H1 locs1 ⟨hR2, hRC, hRM, hPC, hPM, hS⟩) (fun z => absurd rfl z)
set_option maxHeartbeats 1500000 in
theorem law_1 {p : Program} {l : Launch} {e : Env} {s : State} {m : MethodId} {below : List Frame} {meth : Method} {c : Code} {b L : Nat} {xs : Nat → Int32} {D : va_G} {ad bd : Nat → Nat} {cA cB : Nat → ClassId} {k : Int} {C M : Mem} {H : Heap} {locs : List Loc} {cells slots : Nat} {ls : Array Slot} {x3 : Int32} {Z : State → Prop} (C0 : lw_At p s m meth c b L xs) (F : LF (xC l D ad cA) (xM l D bd cB) s) (I : LI (xC l D ad cA) (xM l D bd cB) s k C M H locs) (hk : k ≤ 900) (hcs : cells ≤ 600000 ∧ slots ≤ 7302250) (hl : lv_has ls 4 [(3, .int x3), (2, .ref (bd 0)), (1, .ref (ad 0)), (0, .ref b)]) (h1 : vp_in (x3 + 1) L) (h2 : vp_in (x3 + 2) L) (h3 : vp_in (x3 + 3) L) (kk : ∀ (C' M' : Mem) (H' : Heap) (locs' : List Loc), LI (xC l D ad cA) (xM l D bd cB) s (k + 1) C' M' H' locs' → W p l e room_1 s m #[Value.ref b] below meth c H' locs' cells slots Z (F0 m 469 ls [])) : W p l e room_1 s m #[Value.ref b] below meth c H locs cells slots Z (F0 m 119 ls []) := by
  obtain ⟨hx, hb, hr, hml, hown, hts, hX, hbl, hlocks, hgv⟩ := C0
  have hg : ∀ w ∈ gtb, w.before #[Value.ref b] s = true := fun w hw => hts w (List.mem_filter.mp hw).1
  have hbA : ¬ (fun q : Nat => s.heap.size ≤ q) b := Nat.not_le.mpr hbl
  obtain ⟨⟨hKC, hKM⟩, hDC, hDM, hAC, hAM, hdis⟩ := F
  obtain ⟨hR, hRC, hRM, hPC, hPM, hS⟩ := I
  obtain ⟨a1, ea1, ra1⟩ := i32v (xs (x3 + 1).toNatClampNeg)
  refine lv_aload_n hx hb dL_law_119 rfl (lv_at hl 2 rfl) ?_
  refine lv_aload_n hx hb dL_law_120 rfl (lv_at hl 3 rfl) ?_
  refine lv_iload_n hx hb dL_law_121 rfl (lv_at hl 0 rfl) ?_
  refine lv_iconst (v := 1) hx hb dL_law_122 (by decide) ?_
  refine lv_iadd hx hb dL_law_123 ?_
  refine va_sld hx hb hX hbl hbA hS h1 dL_law_124 ?_
  rw [ea1]
  refine lw_cv (X := (xC l D ad cA)) (M := C) (As := [vi a1]) (rest := []) (ci := 3) (index := 18) (y := yX3_parameter) (mc' := mX3_parameter) (n := 1) hx hb hml hown hg (Nat.le_of_ble_eq_true rfl) rfl rfl hKC hDC hPC hRC (gtb_in (by decide +kernel) rfl) (gtb_in (by decide +kernel) rfl) (gtb_in (by decide +kernel) rfl) (gtb_in (by decide +kernel) rfl) (gtb_in (by decide +kernel) rfl) (by decide +kernel) rfl ⟨rfl, rfl⟩ ⟨Nat.le_of_ble_eq_true rfl, Nat.le_of_ble_eq_true rfl⟩ (Nat.le_of_ble_eq_true rfl) hl.1 rfl dL_law_125 hcs (s_X3_parameter ra1 (p_parameter hR)) hS hAC (fun v C1 H1 locs1 hq hRC hPC hk1 hS => ?_)
  obtain ⟨r, rfl, rr, hQ⟩ := hq
  have hPM := keep_w hPM hk1 (fun q z y => hdis q y z)
  refine lv_aload_n hx hb dL_law_128 rfl (lv_at hl 1 rfl) ?_
  refine lv_aload_n hx hb dL_law_129 rfl (lv_at hl 3 rfl) ?_
  refine lv_iload_n hx hb dL_law_130 rfl (lv_at hl 0 rfl) ?_
  refine lv_iconst (v := 1) hx hb dL_law_131 (by decide) ?_
  refine lv_iadd hx hb dL_law_132 ?_
  refine va_sld hx hb hX hbl hbA hS h1 dL_law_133 ?_
  rw [ea1]
  refine lw_cv (X := (xM l D bd cB)) (M := M) (As := [vi a1]) (rest := [vi r]) (ci := 4) (index := 21) (y := yX4_parameter) (mc' := mX4_parameter) (n := 1) hx hb hml hown hg (Nat.le_of_ble_eq_true rfl) rfl rfl hKM hDM hPM hRM (gtb_in (by decide +kernel) rfl) (gtb_in (by decide +kernel) rfl) (gtb_in (by decide +kernel) rfl) (gtb_in (by decide +kernel) rfl) (gtb_in (by decide +kernel) rfl) (by decide +kernel) rfl ⟨rfl, rfl⟩ ⟨Nat.le_of_ble_eq_true rfl, Nat.le_of_ble_eq_true rfl⟩ (Nat.le_of_ble_eq_true rfl) hl.1 rfl dL_law_134 hcs (s_X4_parameter ra1 hQ) hS hAM (fun v M1 H1 locs1 hq hRM hPM hk1 hS => ?_)
  obtain ⟨r2, rfl, rr2, hQ⟩ := hq
  have hPC := keep_w hPC hk1 hdis
  obtain ⟨rfl, hR2⟩ := hQ
  exact lv_icmp_eq (tgt := 469) hx hb dL_law_137 (by decide) (fun _ => kk C1 M1 H1 locs1 ⟨hR2, hRC, hRM, hPC, hPM, hS⟩) (fun z => absurd rfl z)
set_option maxHeartbeats 1500000 in
theorem law_2 {p : Program} {l : Launch} {e : Env} {s : State} {m : MethodId} {below : List Frame} {meth : Method} {c : Code} {b L : Nat} {xs : Nat → Int32} {D : va_G} {ad bd : Nat → Nat} {cA cB : Nat → ClassId} {k : Int} {C M : Mem} {H : Heap} {locs : List Loc} {cells slots : Nat} {ls : Array Slot} {x3 : Int32} {Z : State → Prop} (C0 : lw_At p s m meth c b L xs) (F : LF (xC l D ad cA) (xM l D bd cB) s) (I : LI (xC l D ad cA) (xM l D bd cB) s k C M H locs) (hk : k ≤ 900) (hcs : cells ≤ 600000 ∧ slots ≤ 7302250) (hl : lv_has ls 4 [(3, .int x3), (2, .ref (bd 0)), (1, .ref (ad 0)), (0, .ref b)]) (h1 : vp_in (x3 + 1) L) (h2 : vp_in (x3 + 2) L) (h3 : vp_in (x3 + 3) L) (kk : ∀ (C' M' : Mem) (H' : Heap) (locs' : List Loc), LI (xC l D ad cA) (xM l D bd cB) s (k + 1) C' M' H' locs' → W p l e room_1 s m #[Value.ref b] below meth c H' locs' cells slots Z (F0 m 469 ls [])) : W p l e room_1 s m #[Value.ref b] below meth c H locs cells slots Z (F0 m 142 ls []) := by
  obtain ⟨hx, hb, hr, hml, hown, hts, hX, hbl, hlocks, hgv⟩ := C0
  have hg : ∀ w ∈ gtb, w.before #[Value.ref b] s = true := fun w hw => hts w (List.mem_filter.mp hw).1
  have hbA : ¬ (fun q : Nat => s.heap.size ≤ q) b := Nat.not_le.mpr hbl
  obtain ⟨⟨hKC, hKM⟩, hDC, hDM, hAC, hAM, hdis⟩ := F
  obtain ⟨hR, hRC, hRM, hPC, hPM, hS⟩ := I
  obtain ⟨a1, ea1, ra1⟩ := i32v (xs (x3 + 1).toNatClampNeg)
  obtain ⟨a2, ea2, ra2⟩ := i32v (xs (x3 + 2).toNatClampNeg)
  obtain ⟨a3, ea3, ra3⟩ := i32v (xs (x3 + 3).toNatClampNeg)
  refine lv_aload_n hx hb dL_law_142 rfl (lv_at hl 2 rfl) ?_
  refine lv_aload_n hx hb dL_law_143 rfl (lv_at hl 3 rfl) ?_
  refine lv_iload_n hx hb dL_law_144 rfl (lv_at hl 0 rfl) ?_
  refine lv_iconst (v := 1) hx hb dL_law_145 (by decide) ?_
  refine lv_iadd hx hb dL_law_146 ?_
  refine va_sld hx hb hX hbl hbA hS h1 dL_law_147 ?_
  rw [ea1]
  refine lv_aload_n hx hb dL_law_148 rfl (lv_at hl 3 rfl) ?_
  refine lv_iload_n hx hb dL_law_149 rfl (lv_at hl 0 rfl) ?_
  refine lv_iconst (v := 2) hx hb dL_law_150 (by decide) ?_
  refine lv_iadd hx hb dL_law_151 ?_
  refine va_sld hx hb hX hbl hbA hS h2 dL_law_152 ?_
  rw [ea2]
  refine lv_aload_n hx hb dL_law_153 rfl (lv_at hl 3 rfl) ?_
  refine lv_iload_n hx hb dL_law_154 rfl (lv_at hl 0 rfl) ?_
  refine lv_iconst (v := 3) hx hb dL_law_155 (by decide) ?_
  refine lv_iadd hx hb dL_law_156 ?_
  refine va_sld hx hb hX hbl hbA hS h3 dL_law_157 ?_
  rw [ea3]
  refine lw_cv (X := (xC l D ad cA)) (M := C) (As := [vi a1, vi a2, vi a3]) (rest := []) (ci := 3) (index := 22) (y := yX3_term) (mc' := mX3_term) (n := 3) hx hb hml hown hg (Nat.le_of_ble_eq_true rfl) rfl rfl hKC hDC hPC hRC (gtb_in (by decide +kernel) rfl) (gtb_in (by decide +kernel) rfl) (gtb_in (by decide +kernel) rfl) (gtb_in (by decide +kernel) rfl) (gtb_in (by decide +kernel) rfl) (by decide +kernel) rfl ⟨rfl, rfl⟩ ⟨Nat.le_of_ble_eq_true rfl, Nat.le_of_ble_eq_true rfl⟩ (Nat.le_of_ble_eq_true rfl) hl.1 rfl dL_law_158 hcs (s_X3_term ra1 ra2 ra3 (p_term hR)) hS hAC (fun v C1 H1 locs1 hq hRC hPC hk1 hS => ?_)
  obtain ⟨r, rfl, rr, hQ⟩ := hq
  have hPM := keep_w hPM hk1 (fun q z y => hdis q y z)
  refine lv_aload_n hx hb dL_law_161 rfl (lv_at hl 1 rfl) ?_
  refine lv_aload_n hx hb dL_law_162 rfl (lv_at hl 3 rfl) ?_
  refine lv_iload_n hx hb dL_law_163 rfl (lv_at hl 0 rfl) ?_
  refine lv_iconst (v := 1) hx hb dL_law_164 (by decide) ?_
  refine lv_iadd hx hb dL_law_165 ?_
  refine va_sld hx hb hX hbl hbA hS h1 dL_law_166 ?_
  rw [ea1]
  refine lv_aload_n hx hb dL_law_167 rfl (lv_at hl 3 rfl) ?_
  refine lv_iload_n hx hb dL_law_168 rfl (lv_at hl 0 rfl) ?_
  refine lv_iconst (v := 2) hx hb dL_law_169 (by decide) ?_
  refine lv_iadd hx hb dL_law_170 ?_
  refine va_sld hx hb hX hbl hbA hS h2 dL_law_171 ?_
  rw [ea2]
  refine lv_aload_n hx hb dL_law_172 rfl (lv_at hl 3 rfl) ?_
  refine lv_iload_n hx hb dL_law_173 rfl (lv_at hl 0 rfl) ?_
  refine lv_iconst (v := 3) hx hb dL_law_174 (by decide) ?_
  refine lv_iadd hx hb dL_law_175 ?_
  refine va_sld hx hb hX hbl hbA hS h3 dL_law_176 ?_
  rw [ea3]
  refine lw_cv (X := (xM l D bd cB)) (M := M) (As := [vi a1, vi a2, vi a3]) (rest := [vi r]) (ci := 4) (index := 26) (y := yX4_term) (mc' := mX4_term) (n := 3) hx hb hml hown hg (Nat.le_of_ble_eq_true rfl) rfl rfl hKM hDM hPM hRM (gtb_in (by decide +kernel) rfl) (gtb_in (by decide +kernel) rfl) (gtb_in (by decide +kernel) rfl) (gtb_in (by decide +kernel) rfl) (gtb_in (by decide +kernel) rfl) (by decide +kernel) rfl ⟨rfl, rfl⟩ ⟨Nat.le_of_ble_eq_true rfl, Nat.le_of_ble_eq_true rfl⟩ (Nat.le_of_ble_eq_true rfl) hl.1 rfl dL_law_177 hcs (s_X4_term ra1 ra2 ra3 hQ) hS hAM (fun v M1 H1 locs1 hq hRM hPM hk1 hS => ?_)
  obtain ⟨r2, rfl, rr2, hQ⟩ := hq
  have hPC := keep_w hPC hk1 hdis
  obtain ⟨rfl, hR2⟩ := hQ
  exact lv_icmp_eq (tgt := 469) hx hb dL_law_180 (by decide) (fun _ => kk C1 M1 H1 locs1 ⟨hR2, hRC, hRM, hPC, hPM, hS⟩) (fun z => absurd rfl z)
set_option maxHeartbeats 1500000 in
theorem law_3 {p : Program} {l : Launch} {e : Env} {s : State} {m : MethodId} {below : List Frame} {meth : Method} {c : Code} {b L : Nat} {xs : Nat → Int32} {D : va_G} {ad bd : Nat → Nat} {cA cB : Nat → ClassId} {k : Int} {C M : Mem} {H : Heap} {locs : List Loc} {cells slots : Nat} {ls : Array Slot} {x3 : Int32} {Z : State → Prop} (C0 : lw_At p s m meth c b L xs) (F : LF (xC l D ad cA) (xM l D bd cB) s) (I : LI (xC l D ad cA) (xM l D bd cB) s k C M H locs) (hk : k ≤ 900) (hcs : cells ≤ 600000 ∧ slots ≤ 7302250) (hl : lv_has ls 4 [(3, .int x3), (2, .ref (bd 0)), (1, .ref (ad 0)), (0, .ref b)]) (h1 : vp_in (x3 + 1) L) (h2 : vp_in (x3 + 2) L) (h3 : vp_in (x3 + 3) L) (kk : ∀ (C' M' : Mem) (H' : Heap) (locs' : List Loc), LI (xC l D ad cA) (xM l D bd cB) s (k + 1) C' M' H' locs' → W p l e room_1 s m #[Value.ref b] below meth c H' locs' cells slots Z (F0 m 469 ls [])) : W p l e room_1 s m #[Value.ref b] below meth c H locs cells slots Z (F0 m 185 ls []) := by
  obtain ⟨hx, hb, hr, hml, hown, hts, hX, hbl, hlocks, hgv⟩ := C0
  have hg : ∀ w ∈ gtb, w.before #[Value.ref b] s = true := fun w hw => hts w (List.mem_filter.mp hw).1
  have hbA : ¬ (fun q : Nat => s.heap.size ≤ q) b := Nat.not_le.mpr hbl
  obtain ⟨⟨hKC, hKM⟩, hDC, hDM, hAC, hAM, hdis⟩ := F
  obtain ⟨hR, hRC, hRM, hPC, hPM, hS⟩ := I
  obtain ⟨a1, ea1, ra1⟩ := i32v (xs (x3 + 1).toNatClampNeg)
  obtain ⟨a2, ea2, ra2⟩ := i32v (xs (x3 + 2).toNatClampNeg)
  refine lv_aload_n hx hb dL_law_185 rfl (lv_at hl 2 rfl) ?_
  refine lv_aload_n hx hb dL_law_186 rfl (lv_at hl 3 rfl) ?_
  refine lv_iload_n hx hb dL_law_187 rfl (lv_at hl 0 rfl) ?_
  refine lv_iconst (v := 1) hx hb dL_law_188 (by decide) ?_
  refine lv_iadd hx hb dL_law_189 ?_
  refine va_sld hx hb hX hbl hbA hS h1 dL_law_190 ?_
  rw [ea1]
  refine lv_aload_n hx hb dL_law_191 rfl (lv_at hl 3 rfl) ?_
  refine lv_iload_n hx hb dL_law_192 rfl (lv_at hl 0 rfl) ?_
  refine lv_iconst (v := 2) hx hb dL_law_193 (by decide) ?_
  refine lv_iadd hx hb dL_law_194 ?_
  refine va_sld hx hb hX hbl hbA hS h2 dL_law_195 ?_
  rw [ea2]
  refine lw_cv (X := (xC l D ad cA)) (M := C) (As := [vi a1, vi a2]) (rest := []) (ci := 3) (index := 27) (y := yX3_define) (mc' := mX3_define) (n := 2) hx hb hml hown hg (Nat.le_of_ble_eq_true rfl) rfl rfl hKC hDC hPC hRC (gtb_in (by decide +kernel) rfl) (gtb_in (by decide +kernel) rfl) (gtb_in (by decide +kernel) rfl) (gtb_in (by decide +kernel) rfl) (gtb_in (by decide +kernel) rfl) (by decide +kernel) rfl ⟨rfl, rfl⟩ ⟨Nat.le_of_ble_eq_true rfl, Nat.le_of_ble_eq_true rfl⟩ (Nat.le_of_ble_eq_true rfl) hl.1 rfl dL_law_196 hcs (s_X3_define ra1 ra2 (p_define hR)) hS hAC (fun v C1 H1 locs1 hq hRC hPC hk1 hS => ?_)
  obtain ⟨r, rfl, rr, hQ⟩ := hq
  have hPM := keep_w hPM hk1 (fun q z y => hdis q y z)
  refine lv_aload_n hx hb dL_law_199 rfl (lv_at hl 1 rfl) ?_
  refine lv_aload_n hx hb dL_law_200 rfl (lv_at hl 3 rfl) ?_
  refine lv_iload_n hx hb dL_law_201 rfl (lv_at hl 0 rfl) ?_
  refine lv_iconst (v := 1) hx hb dL_law_202 (by decide) ?_
  refine lv_iadd hx hb dL_law_203 ?_
  refine va_sld hx hb hX hbl hbA hS h1 dL_law_204 ?_
  rw [ea1]
  refine lv_aload_n hx hb dL_law_205 rfl (lv_at hl 3 rfl) ?_
  refine lv_iload_n hx hb dL_law_206 rfl (lv_at hl 0 rfl) ?_
  refine lv_iconst (v := 2) hx hb dL_law_207 (by decide) ?_
  refine lv_iadd hx hb dL_law_208 ?_
  refine va_sld hx hb hX hbl hbA hS h2 dL_law_209 ?_
  rw [ea2]
  refine lw_cv (X := (xM l D bd cB)) (M := M) (As := [vi a1, vi a2]) (rest := [vi r]) (ci := 4) (index := 31) (y := yX4_define) (mc' := mX4_define) (n := 2) hx hb hml hown hg (Nat.le_of_ble_eq_true rfl) rfl rfl hKM hDM hPM hRM (gtb_in (by decide +kernel) rfl) (gtb_in (by decide +kernel) rfl) (gtb_in (by decide +kernel) rfl) (gtb_in (by decide +kernel) rfl) (gtb_in (by decide +kernel) rfl) (by decide +kernel) rfl ⟨rfl, rfl⟩ ⟨Nat.le_of_ble_eq_true rfl, Nat.le_of_ble_eq_true rfl⟩ (Nat.le_of_ble_eq_true rfl) hl.1 rfl dL_law_210 hcs (s_X4_define ra1 ra2 hQ) hS hAM (fun v M1 H1 locs1 hq hRM hPM hk1 hS => ?_)
  obtain ⟨r2, rfl, rr2, hQ⟩ := hq
  have hPC := keep_w hPC hk1 hdis
  obtain ⟨rfl, hR2⟩ := hQ
  exact lv_icmp_eq (tgt := 469) hx hb dL_law_213 (by decide) (fun _ => kk C1 M1 H1 locs1 ⟨hR2, hRC, hRM, hPC, hPM, hS⟩) (fun z => absurd rfl z)
set_option maxHeartbeats 1500000 in
theorem law_5 {p : Program} {l : Launch} {e : Env} {s : State} {m : MethodId} {below : List Frame} {meth : Method} {c : Code} {b L : Nat} {xs : Nat → Int32} {D : va_G} {ad bd : Nat → Nat} {cA cB : Nat → ClassId} {k : Int} {C M : Mem} {H : Heap} {locs : List Loc} {cells slots : Nat} {ls : Array Slot} {x3 : Int32} {Z : State → Prop} (C0 : lw_At p s m meth c b L xs) (F : LF (xC l D ad cA) (xM l D bd cB) s) (I : LI (xC l D ad cA) (xM l D bd cB) s k C M H locs) (hk : k ≤ 900) (hcs : cells ≤ 600000 ∧ slots ≤ 7302250) (hl : lv_has ls 4 [(3, .int x3), (2, .ref (bd 0)), (1, .ref (ad 0)), (0, .ref b)]) (h1 : vp_in (x3 + 1) L) (h2 : vp_in (x3 + 2) L) (h3 : vp_in (x3 + 3) L) (kk : ∀ (C' M' : Mem) (H' : Heap) (locs' : List Loc), LI (xC l D ad cA) (xM l D bd cB) s (k + 1) C' M' H' locs' → W p l e room_1 s m #[Value.ref b] below meth c H' locs' cells slots Z (F0 m 469 ls [])) : W p l e room_1 s m #[Value.ref b] below meth c H locs cells slots Z (F0 m 267 ls []) := by
  obtain ⟨hx, hb, hr, hml, hown, hts, hX, hbl, hlocks, hgv⟩ := C0
  have hg : ∀ w ∈ gtb, w.before #[Value.ref b] s = true := fun w hw => hts w (List.mem_filter.mp hw).1
  have hbA : ¬ (fun q : Nat => s.heap.size ≤ q) b := Nat.not_le.mpr hbl
  obtain ⟨⟨hKC, hKM⟩, hDC, hDM, hAC, hAM, hdis⟩ := F
  obtain ⟨hR, hRC, hRM, hPC, hPM, hS⟩ := I
  obtain ⟨a1, ea1, ra1⟩ := i32v (xs (x3 + 1).toNatClampNeg)
  obtain ⟨a2, ea2, ra2⟩ := i32v (xs (x3 + 2).toNatClampNeg)
  refine lv_aload_n hx hb dL_law_267 rfl (lv_at hl 2 rfl) ?_
  refine lv_aload_n hx hb dL_law_268 rfl (lv_at hl 3 rfl) ?_
  refine lv_iload_n hx hb dL_law_269 rfl (lv_at hl 0 rfl) ?_
  refine lv_iconst (v := 1) hx hb dL_law_270 (by decide) ?_
  refine lv_iadd hx hb dL_law_271 ?_
  refine va_sld hx hb hX hbl hbA hS h1 dL_law_272 ?_
  rw [ea1]
  refine lv_aload_n hx hb dL_law_273 rfl (lv_at hl 3 rfl) ?_
  refine lv_iload_n hx hb dL_law_274 rfl (lv_at hl 0 rfl) ?_
  refine lv_iconst (v := 2) hx hb dL_law_275 (by decide) ?_
  refine lv_iadd hx hb dL_law_276 ?_
  refine va_sld hx hb hX hbl hbA hS h2 dL_law_277 ?_
  rw [ea2]
  refine lw_cv (X := (xC l D ad cA)) (M := C) (As := [vi a1, vi a2]) (rest := []) (ci := 3) (index := 37) (y := yX3_ofName) (mc' := mX3_ofName) (n := 2) hx hb hml hown hg (Nat.le_of_ble_eq_true rfl) rfl rfl hKC hDC hPC hRC (gtb_in (by decide +kernel) rfl) (gtb_in (by decide +kernel) rfl) (gtb_in (by decide +kernel) rfl) (gtb_in (by decide +kernel) rfl) (gtb_in (by decide +kernel) rfl) (by decide +kernel) rfl ⟨rfl, rfl⟩ ⟨Nat.le_of_ble_eq_true rfl, Nat.le_of_ble_eq_true rfl⟩ (Nat.le_of_ble_eq_true rfl) hl.1 rfl dL_law_278 hcs (s_X3_ofName ra1 ra2 (p_ofName hR)) hS hAC (fun v C1 H1 locs1 hq hRC hPC hk1 hS => ?_)
  obtain ⟨r, rfl, rr, hQ⟩ := hq
  have hPM := keep_w hPM hk1 (fun q z y => hdis q y z)
  refine lv_aload_n hx hb dL_law_281 rfl (lv_at hl 1 rfl) ?_
  refine lv_aload_n hx hb dL_law_282 rfl (lv_at hl 3 rfl) ?_
  refine lv_iload_n hx hb dL_law_283 rfl (lv_at hl 0 rfl) ?_
  refine lv_iconst (v := 1) hx hb dL_law_284 (by decide) ?_
  refine lv_iadd hx hb dL_law_285 ?_
  refine va_sld hx hb hX hbl hbA hS h1 dL_law_286 ?_
  rw [ea1]
  refine lv_aload_n hx hb dL_law_287 rfl (lv_at hl 3 rfl) ?_
  refine lv_iload_n hx hb dL_law_288 rfl (lv_at hl 0 rfl) ?_
  refine lv_iconst (v := 2) hx hb dL_law_289 (by decide) ?_
  refine lv_iadd hx hb dL_law_290 ?_
  refine va_sld hx hb hX hbl hbA hS h2 dL_law_291 ?_
  rw [ea2]
  refine lw_cv (X := (xM l D bd cB)) (M := M) (As := [vi a1, vi a2]) (rest := [vi r]) (ci := 4) (index := 40) (y := yX4_ofName) (mc' := mX4_ofName) (n := 2) hx hb hml hown hg (Nat.le_of_ble_eq_true rfl) rfl rfl hKM hDM hPM hRM (gtb_in (by decide +kernel) rfl) (gtb_in (by decide +kernel) rfl) (gtb_in (by decide +kernel) rfl) (gtb_in (by decide +kernel) rfl) (gtb_in (by decide +kernel) rfl) (by decide +kernel) rfl ⟨rfl, rfl⟩ ⟨Nat.le_of_ble_eq_true rfl, Nat.le_of_ble_eq_true rfl⟩ (Nat.le_of_ble_eq_true rfl) hl.1 rfl dL_law_292 hcs (s_X4_ofName ra1 ra2 hQ) hS hAM (fun v M1 H1 locs1 hq hRM hPM hk1 hS => ?_)
  obtain ⟨r2, rfl, rr2, hQ⟩ := hq
  have hPC := keep_w hPC hk1 hdis
  obtain ⟨rfl, hR2⟩ := hQ
  exact lv_icmp_eq (tgt := 469) hx hb dL_law_295 (by decide) (fun _ => kk C1 M1 H1 locs1 ⟨hR2, hRC, hRM, hPC, hPM, hS⟩) (fun z => absurd rfl z)
set_option maxHeartbeats 1500000 in
theorem law_6 {p : Program} {l : Launch} {e : Env} {s : State} {m : MethodId} {below : List Frame} {meth : Method} {c : Code} {b L : Nat} {xs : Nat → Int32} {D : va_G} {ad bd : Nat → Nat} {cA cB : Nat → ClassId} {k : Int} {C M : Mem} {H : Heap} {locs : List Loc} {cells slots : Nat} {ls : Array Slot} {x3 : Int32} {Z : State → Prop} (C0 : lw_At p s m meth c b L xs) (F : LF (xC l D ad cA) (xM l D bd cB) s) (I : LI (xC l D ad cA) (xM l D bd cB) s k C M H locs) (hk : k ≤ 900) (hcs : cells ≤ 600000 ∧ slots ≤ 7302250) (hl : lv_has ls 4 [(3, .int x3), (2, .ref (bd 0)), (1, .ref (ad 0)), (0, .ref b)]) (h1 : vp_in (x3 + 1) L) (h2 : vp_in (x3 + 2) L) (h3 : vp_in (x3 + 3) L) (kk : ∀ (C' M' : Mem) (H' : Heap) (locs' : List Loc), LI (xC l D ad cA) (xM l D bd cB) s (k + 1) C' M' H' locs' → W p l e room_1 s m #[Value.ref b] below meth c H' locs' cells slots Z (F0 m 469 ls [])) : W p l e room_1 s m #[Value.ref b] below meth c H locs cells slots Z (F0 m 300 ls []) := by
  obtain ⟨hx, hb, hr, hml, hown, hts, hX, hbl, hlocks, hgv⟩ := C0
  have hg : ∀ w ∈ gtb, w.before #[Value.ref b] s = true := fun w hw => hts w (List.mem_filter.mp hw).1
  have hbA : ¬ (fun q : Nat => s.heap.size ≤ q) b := Nat.not_le.mpr hbl
  obtain ⟨⟨hKC, hKM⟩, hDC, hDM, hAC, hAM, hdis⟩ := F
  obtain ⟨hR, hRC, hRM, hPC, hPM, hS⟩ := I
  obtain ⟨a1, ea1, ra1⟩ := i32v (xs (x3 + 1).toNatClampNeg)
  obtain ⟨a2, ea2, ra2⟩ := i32v (xs (x3 + 2).toNatClampNeg)
  refine lv_aload_n hx hb dL_law_300 rfl (lv_at hl 2 rfl) ?_
  refine lv_aload_n hx hb dL_law_301 rfl (lv_at hl 3 rfl) ?_
  refine lv_iload_n hx hb dL_law_302 rfl (lv_at hl 0 rfl) ?_
  refine lv_iconst (v := 1) hx hb dL_law_303 (by decide) ?_
  refine lv_iadd hx hb dL_law_304 ?_
  refine va_sld hx hb hX hbl hbA hS h1 dL_law_305 ?_
  rw [ea1]
  refine lv_aload_n hx hb dL_law_306 rfl (lv_at hl 3 rfl) ?_
  refine lv_iload_n hx hb dL_law_307 rfl (lv_at hl 0 rfl) ?_
  refine lv_iconst (v := 2) hx hb dL_law_308 (by decide) ?_
  refine lv_iadd hx hb dL_law_309 ?_
  refine va_sld hx hb hX hbl hbA hS h2 dL_law_310 ?_
  rw [ea2]
  refine lw_cv (X := (xC l D ad cA)) (M := C) (As := [vi a1, vi a2]) (rest := []) (ci := 3) (index := 41) (y := yX3_ofTerm) (mc' := mX3_ofTerm) (n := 2) hx hb hml hown hg (Nat.le_of_ble_eq_true rfl) rfl rfl hKC hDC hPC hRC (gtb_in (by decide +kernel) rfl) (gtb_in (by decide +kernel) rfl) (gtb_in (by decide +kernel) rfl) (gtb_in (by decide +kernel) rfl) (gtb_in (by decide +kernel) rfl) (by decide +kernel) rfl ⟨rfl, rfl⟩ ⟨Nat.le_of_ble_eq_true rfl, Nat.le_of_ble_eq_true rfl⟩ (Nat.le_of_ble_eq_true rfl) hl.1 rfl dL_law_311 hcs (s_X3_ofTerm ra1 ra2 (p_ofTerm hR)) hS hAC (fun v C1 H1 locs1 hq hRC hPC hk1 hS => ?_)
  obtain ⟨r, rfl, rr, hQ⟩ := hq
  have hPM := keep_w hPM hk1 (fun q z y => hdis q y z)
  refine lv_aload_n hx hb dL_law_314 rfl (lv_at hl 1 rfl) ?_
  refine lv_aload_n hx hb dL_law_315 rfl (lv_at hl 3 rfl) ?_
  refine lv_iload_n hx hb dL_law_316 rfl (lv_at hl 0 rfl) ?_
  refine lv_iconst (v := 1) hx hb dL_law_317 (by decide) ?_
  refine lv_iadd hx hb dL_law_318 ?_
  refine va_sld hx hb hX hbl hbA hS h1 dL_law_319 ?_
  rw [ea1]
  refine lv_aload_n hx hb dL_law_320 rfl (lv_at hl 3 rfl) ?_
  refine lv_iload_n hx hb dL_law_321 rfl (lv_at hl 0 rfl) ?_
  refine lv_iconst (v := 2) hx hb dL_law_322 (by decide) ?_
  refine lv_iadd hx hb dL_law_323 ?_
  refine va_sld hx hb hX hbl hbA hS h2 dL_law_324 ?_
  rw [ea2]
  refine lw_cv (X := (xM l D bd cB)) (M := M) (As := [vi a1, vi a2]) (rest := [vi r]) (ci := 4) (index := 44) (y := yX4_ofTerm) (mc' := mX4_ofTerm) (n := 2) hx hb hml hown hg (Nat.le_of_ble_eq_true rfl) rfl rfl hKM hDM hPM hRM (gtb_in (by decide +kernel) rfl) (gtb_in (by decide +kernel) rfl) (gtb_in (by decide +kernel) rfl) (gtb_in (by decide +kernel) rfl) (gtb_in (by decide +kernel) rfl) (by decide +kernel) rfl ⟨rfl, rfl⟩ ⟨Nat.le_of_ble_eq_true rfl, Nat.le_of_ble_eq_true rfl⟩ (Nat.le_of_ble_eq_true rfl) hl.1 rfl dL_law_325 hcs (s_X4_ofTerm ra1 ra2 hQ) hS hAM (fun v M1 H1 locs1 hq hRM hPM hk1 hS => ?_)
  obtain ⟨r2, rfl, rr2, hQ⟩ := hq
  have hPC := keep_w hPC hk1 hdis
  obtain ⟨rfl, hR2⟩ := hQ
  exact lv_icmp_eq (tgt := 469) hx hb dL_law_328 (by decide) (fun _ => kk C1 M1 H1 locs1 ⟨hR2, hRC, hRM, hPC, hPM, hS⟩) (fun z => absurd rfl z)
set_option maxHeartbeats 1500000 in
theorem law_8 {p : Program} {l : Launch} {e : Env} {s : State} {m : MethodId} {below : List Frame} {meth : Method} {c : Code} {b L : Nat} {xs : Nat → Int32} {D : va_G} {ad bd : Nat → Nat} {cA cB : Nat → ClassId} {k : Int} {C M : Mem} {H : Heap} {locs : List Loc} {cells slots : Nat} {ls : Array Slot} {x3 : Int32} {Z : State → Prop} (C0 : lw_At p s m meth c b L xs) (F : LF (xC l D ad cA) (xM l D bd cB) s) (I : LI (xC l D ad cA) (xM l D bd cB) s k C M H locs) (hk : k ≤ 900) (hcs : cells ≤ 600000 ∧ slots ≤ 7302250) (hl : lv_has ls 4 [(3, .int x3), (2, .ref (bd 0)), (1, .ref (ad 0)), (0, .ref b)]) (h1 : vp_in (x3 + 1) L) (h2 : vp_in (x3 + 2) L) (h3 : vp_in (x3 + 3) L) (kk : ∀ (C' M' : Mem) (H' : Heap) (locs' : List Loc), LI (xC l D ad cA) (xM l D bd cB) s (k + 1) C' M' H' locs' → W p l e room_1 s m #[Value.ref b] below meth c H' locs' cells slots Z (F0 m 469 ls [])) : W p l e room_1 s m #[Value.ref b] below meth c H locs cells slots Z (F0 m 367 ls []) := by
  obtain ⟨hx, hb, hr, hml, hown, hts, hX, hbl, hlocks, hgv⟩ := C0
  have hg : ∀ w ∈ gtb, w.before #[Value.ref b] s = true := fun w hw => hts w (List.mem_filter.mp hw).1
  have hbA : ¬ (fun q : Nat => s.heap.size ≤ q) b := Nat.not_le.mpr hbl
  obtain ⟨⟨hKC, hKM⟩, hDC, hDM, hAC, hAM, hdis⟩ := F
  obtain ⟨hR, hRC, hRM, hPC, hPM, hS⟩ := I
  obtain ⟨a1, ea1, ra1⟩ := i32v (xs (x3 + 1).toNatClampNeg)
  refine lv_aload_n hx hb dL_law_367 rfl (lv_at hl 2 rfl) ?_
  refine lv_aload_n hx hb dL_law_368 rfl (lv_at hl 3 rfl) ?_
  refine lv_iload_n hx hb dL_law_369 rfl (lv_at hl 0 rfl) ?_
  refine lv_iconst (v := 1) hx hb dL_law_370 (by decide) ?_
  refine lv_iadd hx hb dL_law_371 ?_
  refine va_sld hx hb hX hbl hbA hS h1 dL_law_372 ?_
  rw [ea1]
  refine lw_cv (X := (xC l D ad cA)) (M := C) (As := [vi a1]) (rest := []) (ci := 3) (index := 50) (y := yX3_front) (mc' := mX3_front) (n := 1) hx hb hml hown hg (Nat.le_of_ble_eq_true rfl) rfl rfl hKC hDC hPC hRC (gtb_in (by decide +kernel) rfl) (gtb_in (by decide +kernel) rfl) (gtb_in (by decide +kernel) rfl) (gtb_in (by decide +kernel) rfl) (gtb_in (by decide +kernel) rfl) (by decide +kernel) rfl ⟨rfl, rfl⟩ ⟨Nat.le_of_ble_eq_true rfl, Nat.le_of_ble_eq_true rfl⟩ (Nat.le_of_ble_eq_true rfl) hl.1 rfl dL_law_373 hcs (s_X3_front ra1 (p_front hR)) hS hAC (fun v C1 H1 locs1 hq hRC hPC hk1 hS => ?_)
  obtain ⟨r, rfl, rr, hQ⟩ := hq
  have hPM := keep_w hPM hk1 (fun q z y => hdis q y z)
  refine lv_aload_n hx hb dL_law_376 rfl (lv_at hl 1 rfl) ?_
  refine lv_aload_n hx hb dL_law_377 rfl (lv_at hl 3 rfl) ?_
  refine lv_iload_n hx hb dL_law_378 rfl (lv_at hl 0 rfl) ?_
  refine lv_iconst (v := 1) hx hb dL_law_379 (by decide) ?_
  refine lv_iadd hx hb dL_law_380 ?_
  refine va_sld hx hb hX hbl hbA hS h1 dL_law_381 ?_
  rw [ea1]
  refine lw_cv (X := (xM l D bd cB)) (M := M) (As := [vi a1]) (rest := [vi r]) (ci := 4) (index := 53) (y := yX4_front) (mc' := mX4_front) (n := 1) hx hb hml hown hg (Nat.le_of_ble_eq_true rfl) rfl rfl hKM hDM hPM hRM (gtb_in (by decide +kernel) rfl) (gtb_in (by decide +kernel) rfl) (gtb_in (by decide +kernel) rfl) (gtb_in (by decide +kernel) rfl) (gtb_in (by decide +kernel) rfl) (by decide +kernel) rfl ⟨rfl, rfl⟩ ⟨Nat.le_of_ble_eq_true rfl, Nat.le_of_ble_eq_true rfl⟩ (Nat.le_of_ble_eq_true rfl) hl.1 rfl dL_law_382 hcs (s_X4_front ra1 hQ) hS hAM (fun v M1 H1 locs1 hq hRM hPM hk1 hS => ?_)
  obtain ⟨r2, rfl, rr2, hQ⟩ := hq
  have hPC := keep_w hPC hk1 hdis
  obtain ⟨rfl, hR2⟩ := hQ
  exact lv_icmp_eq (tgt := 469) hx hb dL_law_385 (by decide) (fun _ => kk C1 M1 H1 locs1 ⟨hR2, hRC, hRM, hPC, hPM, hS⟩) (fun z => absurd rfl z)
set_option maxHeartbeats 1500000 in
theorem law_9 {p : Program} {l : Launch} {e : Env} {s : State} {m : MethodId} {below : List Frame} {meth : Method} {c : Code} {b L : Nat} {xs : Nat → Int32} {D : va_G} {ad bd : Nat → Nat} {cA cB : Nat → ClassId} {k : Int} {C M : Mem} {H : Heap} {locs : List Loc} {cells slots : Nat} {ls : Array Slot} {x3 : Int32} {Z : State → Prop} (C0 : lw_At p s m meth c b L xs) (F : LF (xC l D ad cA) (xM l D bd cB) s) (I : LI (xC l D ad cA) (xM l D bd cB) s k C M H locs) (hk : k ≤ 900) (hcs : cells ≤ 600000 ∧ slots ≤ 7302250) (hl : lv_has ls 4 [(3, .int x3), (2, .ref (bd 0)), (1, .ref (ad 0)), (0, .ref b)]) (h1 : vp_in (x3 + 1) L) (h2 : vp_in (x3 + 2) L) (h3 : vp_in (x3 + 3) L) (kk : ∀ (C' M' : Mem) (H' : Heap) (locs' : List Loc), LI (xC l D ad cA) (xM l D bd cB) s (k + 1) C' M' H' locs' → W p l e room_1 s m #[Value.ref b] below meth c H' locs' cells slots Z (F0 m 469 ls [])) : W p l e room_1 s m #[Value.ref b] below meth c H locs cells slots Z (F0 m 390 ls []) := by
  obtain ⟨hx, hb, hr, hml, hown, hts, hX, hbl, hlocks, hgv⟩ := C0
  have hg : ∀ w ∈ gtb, w.before #[Value.ref b] s = true := fun w hw => hts w (List.mem_filter.mp hw).1
  have hbA : ¬ (fun q : Nat => s.heap.size ≤ q) b := Nat.not_le.mpr hbl
  obtain ⟨⟨hKC, hKM⟩, hDC, hDM, hAC, hAM, hdis⟩ := F
  obtain ⟨hR, hRC, hRM, hPC, hPM, hS⟩ := I
  obtain ⟨a1, ea1, ra1⟩ := i32v (xs (x3 + 1).toNatClampNeg)
  obtain ⟨a2, ea2, ra2⟩ := i32v (xs (x3 + 2).toNatClampNeg)
  refine lv_aload_n hx hb dL_law_390 rfl (lv_at hl 2 rfl) ?_
  refine lv_aload_n hx hb dL_law_391 rfl (lv_at hl 3 rfl) ?_
  refine lv_iload_n hx hb dL_law_392 rfl (lv_at hl 0 rfl) ?_
  refine lv_iconst (v := 1) hx hb dL_law_393 (by decide) ?_
  refine lv_iadd hx hb dL_law_394 ?_
  refine va_sld hx hb hX hbl hbA hS h1 dL_law_395 ?_
  rw [ea1]
  refine lv_aload_n hx hb dL_law_396 rfl (lv_at hl 3 rfl) ?_
  refine lv_iload_n hx hb dL_law_397 rfl (lv_at hl 0 rfl) ?_
  refine lv_iconst (v := 2) hx hb dL_law_398 (by decide) ?_
  refine lv_iadd hx hb dL_law_399 ?_
  refine va_sld hx hb hX hbl hbA hS h2 dL_law_400 ?_
  rw [ea2]
  refine lw_cv (X := (xC l D ad cA)) (M := C) (As := [vi a1, vi a2]) (rest := []) (ci := 3) (index := 54) (y := yX3_check) (mc' := mX3_check) (n := 2) hx hb hml hown hg (Nat.le_of_ble_eq_true rfl) rfl rfl hKC hDC hPC hRC (gtb_in (by decide +kernel) rfl) (gtb_in (by decide +kernel) rfl) (gtb_in (by decide +kernel) rfl) (gtb_in (by decide +kernel) rfl) (gtb_in (by decide +kernel) rfl) (by decide +kernel) rfl ⟨rfl, rfl⟩ ⟨Nat.le_of_ble_eq_true rfl, Nat.le_of_ble_eq_true rfl⟩ (Nat.le_of_ble_eq_true rfl) hl.1 rfl dL_law_401 hcs (s_X3_check ra1 ra2 (p_check hR hk)) hS hAC (fun v C1 H1 locs1 hq hRC hPC hk1 hS => ?_)
  obtain ⟨r, rfl, rr, hQ⟩ := hq
  have hPM := keep_w hPM hk1 (fun q z y => hdis q y z)
  refine lv_aload_n hx hb dL_law_404 rfl (lv_at hl 1 rfl) ?_
  refine lv_aload_n hx hb dL_law_405 rfl (lv_at hl 3 rfl) ?_
  refine lv_iload_n hx hb dL_law_406 rfl (lv_at hl 0 rfl) ?_
  refine lv_iconst (v := 1) hx hb dL_law_407 (by decide) ?_
  refine lv_iadd hx hb dL_law_408 ?_
  refine va_sld hx hb hX hbl hbA hS h1 dL_law_409 ?_
  rw [ea1]
  refine lv_aload_n hx hb dL_law_410 rfl (lv_at hl 3 rfl) ?_
  refine lv_iload_n hx hb dL_law_411 rfl (lv_at hl 0 rfl) ?_
  refine lv_iconst (v := 2) hx hb dL_law_412 (by decide) ?_
  refine lv_iadd hx hb dL_law_413 ?_
  refine va_sld hx hb hX hbl hbA hS h2 dL_law_414 ?_
  rw [ea2]
  refine lw_cv (X := (xM l D bd cB)) (M := M) (As := [vi a1, vi a2]) (rest := [vi r]) (ci := 4) (index := 57) (y := yX4_check) (mc' := mX4_check) (n := 2) hx hb hml hown hg (Nat.le_of_ble_eq_true rfl) rfl rfl hKM hDM hPM hRM (gtb_in (by decide +kernel) rfl) (gtb_in (by decide +kernel) rfl) (gtb_in (by decide +kernel) rfl) (gtb_in (by decide +kernel) rfl) (gtb_in (by decide +kernel) rfl) (by decide +kernel) rfl ⟨rfl, rfl⟩ ⟨Nat.le_of_ble_eq_true rfl, Nat.le_of_ble_eq_true rfl⟩ (Nat.le_of_ble_eq_true rfl) hl.1 rfl dL_law_415 hcs (s_X4_check ra1 ra2 hQ) hS hAM (fun v M1 H1 locs1 hq hRM hPM hk1 hS => ?_)
  obtain ⟨r2, rfl, rr2, hQ⟩ := hq
  have hPC := keep_w hPC hk1 hdis
  obtain ⟨rfl, hR2⟩ := hQ
  exact lv_icmp_eq (tgt := 469) hx hb dL_law_418 (by decide) (fun _ => kk C1 M1 H1 locs1 ⟨hR2, hRC, hRM, hPC, hPM, hS⟩) (fun z => absurd rfl z)
set_option maxHeartbeats 1500000 in
theorem law_10 {p : Program} {l : Launch} {e : Env} {s : State} {m : MethodId} {below : List Frame} {meth : Method} {c : Code} {b L : Nat} {xs : Nat → Int32} {D : va_G} {ad bd : Nat → Nat} {cA cB : Nat → ClassId} {k : Int} {C M : Mem} {H : Heap} {locs : List Loc} {cells slots : Nat} {ls : Array Slot} {x3 : Int32} {Z : State → Prop} (C0 : lw_At p s m meth c b L xs) (F : LF (xC l D ad cA) (xM l D bd cB) s) (I : LI (xC l D ad cA) (xM l D bd cB) s k C M H locs) (hk : k ≤ 900) (hcs : cells ≤ 600000 ∧ slots ≤ 7302250) (hl : lv_has ls 4 [(3, .int x3), (2, .ref (bd 0)), (1, .ref (ad 0)), (0, .ref b)]) (h1 : vp_in (x3 + 1) L) (h2 : vp_in (x3 + 2) L) (h3 : vp_in (x3 + 3) L) (kk : ∀ (C' M' : Mem) (H' : Heap) (locs' : List Loc), LI (xC l D ad cA) (xM l D bd cB) s (k + 1) C' M' H' locs' → W p l e room_1 s m #[Value.ref b] below meth c H' locs' cells slots Z (F0 m 469 ls [])) : W p l e room_1 s m #[Value.ref b] below meth c H locs cells slots Z (F0 m 423 ls []) := by
  obtain ⟨hx, hb, hr, hml, hown, hts, hX, hbl, hlocks, hgv⟩ := C0
  have hg : ∀ w ∈ gtb, w.before #[Value.ref b] s = true := fun w hw => hts w (List.mem_filter.mp hw).1
  have hbA : ¬ (fun q : Nat => s.heap.size ≤ q) b := Nat.not_le.mpr hbl
  obtain ⟨⟨hKC, hKM⟩, hDC, hDM, hAC, hAM, hdis⟩ := F
  obtain ⟨hR, hRC, hRM, hPC, hPM, hS⟩ := I
  obtain ⟨a1, ea1, ra1⟩ := i32v (xs (x3 + 1).toNatClampNeg)
  refine lv_aload_n hx hb dL_law_423 rfl (lv_at hl 2 rfl) ?_
  refine lv_aload_n hx hb dL_law_424 rfl (lv_at hl 3 rfl) ?_
  refine lv_iload_n hx hb dL_law_425 rfl (lv_at hl 0 rfl) ?_
  refine lv_iconst (v := 1) hx hb dL_law_426 (by decide) ?_
  refine lv_iadd hx hb dL_law_427 ?_
  refine va_sld hx hb hX hbl hbA hS h1 dL_law_428 ?_
  rw [ea1]
  refine lw_cv (X := (xC l D ad cA)) (M := C) (As := [vi a1]) (rest := []) (ci := 3) (index := 58) (y := yX3_checked) (mc' := mX3_checked) (n := 1) hx hb hml hown hg (Nat.le_of_ble_eq_true rfl) rfl rfl hKC hDC hPC hRC (gtb_in (by decide +kernel) rfl) (gtb_in (by decide +kernel) rfl) (gtb_in (by decide +kernel) rfl) (gtb_in (by decide +kernel) rfl) (gtb_in (by decide +kernel) rfl) (by decide +kernel) rfl ⟨rfl, rfl⟩ ⟨Nat.le_of_ble_eq_true rfl, Nat.le_of_ble_eq_true rfl⟩ (Nat.le_of_ble_eq_true rfl) hl.1 rfl dL_law_429 hcs (s_X3_checked ra1 (p_checked hR)) hS hAC (fun v C1 H1 locs1 hq hRC hPC hk1 hS => ?_)
  obtain ⟨r, rfl, rr, hQ⟩ := hq
  have hPM := keep_w hPM hk1 (fun q z y => hdis q y z)
  refine lv_aload_n hx hb dL_law_432 rfl (lv_at hl 1 rfl) ?_
  refine lv_aload_n hx hb dL_law_433 rfl (lv_at hl 3 rfl) ?_
  refine lv_iload_n hx hb dL_law_434 rfl (lv_at hl 0 rfl) ?_
  refine lv_iconst (v := 1) hx hb dL_law_435 (by decide) ?_
  refine lv_iadd hx hb dL_law_436 ?_
  refine va_sld hx hb hX hbl hbA hS h1 dL_law_437 ?_
  rw [ea1]
  refine lw_cv (X := (xM l D bd cB)) (M := M) (As := [vi a1]) (rest := [vi r]) (ci := 4) (index := 61) (y := yX4_checked) (mc' := mX4_checked) (n := 1) hx hb hml hown hg (Nat.le_of_ble_eq_true rfl) rfl rfl hKM hDM hPM hRM (gtb_in (by decide +kernel) rfl) (gtb_in (by decide +kernel) rfl) (gtb_in (by decide +kernel) rfl) (gtb_in (by decide +kernel) rfl) (gtb_in (by decide +kernel) rfl) (by decide +kernel) rfl ⟨rfl, rfl⟩ ⟨Nat.le_of_ble_eq_true rfl, Nat.le_of_ble_eq_true rfl⟩ (Nat.le_of_ble_eq_true rfl) hl.1 rfl dL_law_438 hcs (s_X4_checked ra1 hQ) hS hAM (fun v M1 H1 locs1 hq hRM hPM hk1 hS => ?_)
  obtain ⟨r2, rfl, rr2, hQ⟩ := hq
  have hPC := keep_w hPC hk1 hdis
  obtain ⟨rfl, hR2⟩ := hQ
  exact lv_icmp_eq (tgt := 469) hx hb dL_law_441 (by decide) (fun _ => kk C1 M1 H1 locs1 ⟨hR2, hRC, hRM, hPC, hPM, hS⟩) (fun z => absurd rfl z)
set_option maxHeartbeats 1500000 in
theorem law_11 {p : Program} {l : Launch} {e : Env} {s : State} {m : MethodId} {below : List Frame} {meth : Method} {c : Code} {b L : Nat} {xs : Nat → Int32} {D : va_G} {ad bd : Nat → Nat} {cA cB : Nat → ClassId} {k : Int} {C M : Mem} {H : Heap} {locs : List Loc} {cells slots : Nat} {ls : Array Slot} {x3 : Int32} {Z : State → Prop} (C0 : lw_At p s m meth c b L xs) (F : LF (xC l D ad cA) (xM l D bd cB) s) (I : LI (xC l D ad cA) (xM l D bd cB) s k C M H locs) (hk : k ≤ 900) (hcs : cells ≤ 600000 ∧ slots ≤ 7302250) (hl : lv_has ls 4 [(3, .int x3), (2, .ref (bd 0)), (1, .ref (ad 0)), (0, .ref b)]) (h1 : vp_in (x3 + 1) L) (h2 : vp_in (x3 + 2) L) (h3 : vp_in (x3 + 3) L) (kk : ∀ (C' M' : Mem) (H' : Heap) (locs' : List Loc), LI (xC l D ad cA) (xM l D bd cB) s (k + 1) C' M' H' locs' → W p l e room_1 s m #[Value.ref b] below meth c H' locs' cells slots Z (F0 m 469 ls [])) : W p l e room_1 s m #[Value.ref b] below meth c H locs cells slots Z (F0 m 446 ls []) := by
  obtain ⟨hx, hb, hr, hml, hown, hts, hX, hbl, hlocks, hgv⟩ := C0
  have hg : ∀ w ∈ gtb, w.before #[Value.ref b] s = true := fun w hw => hts w (List.mem_filter.mp hw).1
  have hbA : ¬ (fun q : Nat => s.heap.size ≤ q) b := Nat.not_le.mpr hbl
  obtain ⟨⟨hKC, hKM⟩, hDC, hDM, hAC, hAM, hdis⟩ := F
  obtain ⟨hR, hRC, hRM, hPC, hPM, hS⟩ := I
  obtain ⟨a1, ea1, ra1⟩ := i32v (xs (x3 + 1).toNatClampNeg)
  refine lv_aload_n hx hb dL_law_446 rfl (lv_at hl 2 rfl) ?_
  refine lv_aload_n hx hb dL_law_447 rfl (lv_at hl 3 rfl) ?_
  refine lv_iload_n hx hb dL_law_448 rfl (lv_at hl 0 rfl) ?_
  refine lv_iconst (v := 1) hx hb dL_law_449 (by decide) ?_
  refine lv_iadd hx hb dL_law_450 ?_
  refine va_sld hx hb hX hbl hbA hS h1 dL_law_451 ?_
  rw [ea1]
  refine lw_cv (X := (xC l D ad cA)) (M := C) (As := [vi a1]) (rest := []) (ci := 3) (index := 62) (y := yX3_many) (mc' := mX3_many) (n := 1) hx hb hml hown hg (Nat.le_of_ble_eq_true rfl) rfl rfl hKC hDC hPC hRC (gtb_in (by decide +kernel) rfl) (gtb_in (by decide +kernel) rfl) (gtb_in (by decide +kernel) rfl) (gtb_in (by decide +kernel) rfl) (gtb_in (by decide +kernel) rfl) (by decide +kernel) rfl ⟨rfl, rfl⟩ ⟨Nat.le_of_ble_eq_true rfl, Nat.le_of_ble_eq_true rfl⟩ (Nat.le_of_ble_eq_true rfl) hl.1 rfl dL_law_452 hcs (s_X3_many ra1 (p_many hR)) hS hAC (fun v C1 H1 locs1 hq hRC hPC hk1 hS => ?_)
  obtain ⟨r, rfl, rr, hQ⟩ := hq
  have hPM := keep_w hPM hk1 (fun q z y => hdis q y z)
  refine lv_aload_n hx hb dL_law_455 rfl (lv_at hl 1 rfl) ?_
  refine lv_aload_n hx hb dL_law_456 rfl (lv_at hl 3 rfl) ?_
  refine lv_iload_n hx hb dL_law_457 rfl (lv_at hl 0 rfl) ?_
  refine lv_iconst (v := 1) hx hb dL_law_458 (by decide) ?_
  refine lv_iadd hx hb dL_law_459 ?_
  refine va_sld hx hb hX hbl hbA hS h1 dL_law_460 ?_
  rw [ea1]
  refine lw_cv (X := (xM l D bd cB)) (M := M) (As := [vi a1]) (rest := [vi r]) (ci := 4) (index := 65) (y := yX4_many) (mc' := mX4_many) (n := 1) hx hb hml hown hg (Nat.le_of_ble_eq_true rfl) rfl rfl hKM hDM hPM hRM (gtb_in (by decide +kernel) rfl) (gtb_in (by decide +kernel) rfl) (gtb_in (by decide +kernel) rfl) (gtb_in (by decide +kernel) rfl) (gtb_in (by decide +kernel) rfl) (by decide +kernel) rfl ⟨rfl, rfl⟩ ⟨Nat.le_of_ble_eq_true rfl, Nat.le_of_ble_eq_true rfl⟩ (Nat.le_of_ble_eq_true rfl) hl.1 rfl dL_law_461 hcs (s_X4_many ra1 hQ) hS hAM (fun v M1 H1 locs1 hq hRM hPM hk1 hS => ?_)
  obtain ⟨r2, rfl, rr2, hQ⟩ := hq
  have hPC := keep_w hPC hk1 hdis
  obtain ⟨rfl, hR2⟩ := hQ
  exact lv_icmp_eq (tgt := 469) hx hb dL_law_464 (by decide) (fun _ => kk C1 M1 H1 locs1 ⟨hR2, hRC, hRM, hPC, hPM, hS⟩) (fun z => absurd rfl z)
