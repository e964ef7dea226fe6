/-! the law's loop -/
theorem and15 (x : Int32) : 0 ≤ (x &&& 15).toInt ∧ (x &&& 15).toInt ≤ 15 := by
  have h : (x &&& 15).toBitVec.toNat ≤ 15 := by
    rw [Int32.toBitVec_and, BitVec.toNat_and]
    exact Nat.and_le_right
  have e : (x &&& 15).toInt = ((x &&& 15).toBitVec.toNat : Int) := by
    show (x &&& 15).toBitVec.toInt = _
    rw [BitVec.toInt_eq_toNat_cond]
    split
    · rfl
    · omega
  omega
theorem sub4 {L : Nat} (h : L ≤ 2048) : (nI L - 4).toInt = (L : Int) - 4 := by
  have e : nI L = Int32.ofInt (L : Int) := rfl
  rw [e, show (4 : Int32) = Int32.ofInt 4 from rfl, ← Int32.ofInt_sub, Int32.toInt_ofInt_of_le (by omega) (by omega)]
set_option maxHeartbeats 3000000 in
theorem law_loop {p : Program} {l : Launch} {e : Env} {s : State} {m : MethodId} {below : List Frame} {meth : Method} {c : Code} {b L : Nat} {xs : Nat → Int32} {D : va_G} {ad bd : Nat → Nat} {cA cB : Nat → ClassId} {cells slots : Nat} (hL : L ≤ 2048) (C0 : lw_At p s m meth c b L xs) (F : LF (xC l D ad cA) (xM l D bd cB) s) (hcs : cells ≤ 600000 ∧ slots ≤ 7302250) :
    ∀ (n t : Nat) (x3 : Int32) (C M : Mem) (H : Heap) (locs : List Loc) (ls : Array Slot), 4 * t ≤ L + 3 → 600 ≤ t + n → x3 = nI (4 * t) → LI (xC l D ad cA) (xM l D bd cB) s t C M H locs → lv_has ls 4 [(3, .int x3), (2, .ref (bd 0)), (1, .ref (ad 0)), (0, .ref b)] → W p l e room_1 s m #[Value.ref b] below meth c H locs cells slots (lw_Z below #[Value.ref b] s) (F0 m 18 ls []) := by
  obtain ⟨hx, hb, hr, hml, hown, hts, hX, hbl, hlocks, hgv⟩ := id C0
  have hbA : ¬ (fun q : Nat => s.heap.size ≤ q) b := Nat.not_le.mpr hbl
  intro n
  induction n with
  | zero => intro t x3 C M H locs ls h1 h2; omega
  | succ n ih =>
    intro t x3 C M H locs ls h1 h2 ex I hl
    have hS := I.2.2.2.2.2
    refine lv_iload_n hx hb dL_law_18 rfl (lv_at hl 0 rfl) ?_
    refine lv_aload_n hx hb dL_law_19 rfl (lv_at hl 3 rfl) ?_
    refine va_slen hx hb hX hbl hbA hS dL_law_20 ?_
    refine lv_iconst (v := 4) hx hb dL_law_21 (by decide) ?_
    refine lv_isub hx hb dL_law_22 ?_
    refine lv_icmp_gt (tgt := 475) hx hb dL_law_23 (by decide) (fun _ => ?_) (fun cg => ?_)
    · refine lv_iconst (v := 1) hx hb dL_law_475 (by decide) ?_
      refine va_forget (fun q hq => hS.2.2 q hq) ?_
      refine W.widen (k := 600000) (n := 7302250) hcs.1 hcs.2 ?_
      exact lw_ret hx hb hr hlocks dL_law_476
    · have hlt : 4 * t + 4 ≤ L := by
        rcases Nat.lt_or_ge L (4 * t + 4) with q | q
        · exfalso
          apply cg
          rw [ex]
          show (nI L - 4) < nI (4 * t)
          rw [Int32.lt_iff_toInt_lt, sub4 hL, nI_toInt (by omega)]
          omega
        · exact q
      have i0 : vp_in x3 L := by rw [ex]; exact vp_in_nI (by omega) (by omega)
      have i1 : vp_in (x3 + 1) L := by rw [ex, nI_1]; exact vp_in_nI (by omega) (by omega)
      have i2 : vp_in (x3 + 2) L := by rw [ex, show (2 : Int32) = nI 2 from rfl, nI_add]; exact vp_in_nI (by omega) (by omega)
      have i3 : vp_in (x3 + 3) L := by rw [ex, show (3 : Int32) = nI 3 from rfl, nI_add]; exact vp_in_nI (by omega) (by omega)
      have go : ∀ (C' M' : Mem) (H' : Heap) (locs' : List Loc), LI (xC l D ad cA) (xM l D bd cB) s (t + 1) C' M' H' locs' → W p l e room_1 s m #[Value.ref b] below meth c H' locs' cells slots (lw_Z below #[Value.ref b] s) (F0 m 469 ls []) := by
        intro C' M' H' locs' I'
        refine lv_iinc (v := x3 + 4) (lv' := [(3, .int (x3 + 4)), (2, .ref (bd 0)), (1, .ref (ad 0)), (0, .ref b)]) hx hb dL_law_469 hl (k := 0) rfl rfl (by decide) rfl (fun ls hl => ?_)
        refine lv_goto (tgt := 18) hx hb dL_law_472 (by decide) ?_
        exact ih (t + 1) (x3 + 4) C' M' H' locs' ls (by omega) (by omega) (by rw [ex, show (4 : Int32) = nI 4 from rfl, nI_add]; rfl) I' hl
      have hk : (t : Int) ≤ 900 := by omega
      refine lv_aload_n hx hb dL_law_26 rfl (lv_at hl 3 rfl) ?_
      refine lv_iload_n hx hb dL_law_27 rfl (lv_at hl 0 rfl) ?_
      refine va_sld hx hb hX hbl hbA hS i0 dL_law_28 ?_
      refine lv_bipush hx hb dL_law_29 (n_i8 (n := 15) (by decide)) ?_
      refine lv_iand hx hb dL_law_31 ?_
      have a15 := and15 (xs x3.toNatClampNeg)
      generalize hv : (xs x3.toNatClampNeg) &&& Int32.ofInt 15 = v
      have a15' : 0 ≤ v.toInt ∧ v.toInt ≤ 15 := by rw [← hv]; exact a15
      by_cases c12 : 12 ≤ v.toInt
      · refine lv_tableOut (tgt := 469) hx hb dL_law_32 (Or.inr (by omega)) (by decide) ?_
        exact go C M H locs ⟨I.1.up1, I.2⟩
      · have cs : v.toInt = 0 ∨ v.toInt = 1 ∨ v.toInt = 2 ∨ v.toInt = 3 ∨ v.toInt = 4 ∨ v.toInt = 5 ∨ v.toInt = 6 ∨ v.toInt = 7 ∨ v.toInt = 8 ∨ v.toInt = 9 ∨ v.toInt = 10 ∨ v.toInt = 11 := by omega
        rcases cs with ev | ev | ev | ev | ev | ev | ev | ev | ev | ev | ev | ev
        · refine lv_tableIn (off := 64) (tgt := 96) hx hb dL_law_32 (by omega) (by omega) (by rw [ev]; rfl) (by decide) ?_
          exact law_0 C0 F I hk hcs hl i1 i2 i3 go
        · refine lv_tableIn (off := 87) (tgt := 119) hx hb dL_law_32 (by omega) (by omega) (by rw [ev]; rfl) (by decide) ?_
          exact law_1 C0 F I hk hcs hl i1 i2 i3 go
        · refine lv_tableIn (off := 110) (tgt := 142) hx hb dL_law_32 (by omega) (by omega) (by rw [ev]; rfl) (by decide) ?_
          exact law_2 C0 F I hk hcs hl i1 i2 i3 go
        · refine lv_tableIn (off := 153) (tgt := 185) hx hb dL_law_32 (by omega) (by omega) (by rw [ev]; rfl) (by decide) ?_
          exact law_3 C0 F I hk hcs hl i1 i2 i3 go
        · refine lv_tableIn (off := 186) (tgt := 218) hx hb dL_law_32 (by omega) (by omega) (by rw [ev]; rfl) (by decide) ?_
          exact law_4 C0 F I hk hcs hl i1 i2 i3 go
        · refine lv_tableIn (off := 235) (tgt := 267) hx hb dL_law_32 (by omega) (by omega) (by rw [ev]; rfl) (by decide) ?_
          exact law_5 C0 F I hk hcs hl i1 i2 i3 go
        · refine lv_tableIn (off := 268) (tgt := 300) hx hb dL_law_32 (by omega) (by omega) (by rw [ev]; rfl) (by decide) ?_
          exact law_6 C0 F I hk hcs hl i1 i2 i3 go
        · refine lv_tableIn (off := 301) (tgt := 333) hx hb dL_law_32 (by omega) (by omega) (by rw [ev]; rfl) (by decide) ?_
          exact law_7 C0 F I hk hcs hl i1 i2 i3 go
        · refine lv_tableIn (off := 335) (tgt := 367) hx hb dL_law_32 (by omega) (by omega) (by rw [ev]; rfl) (by decide) ?_
          exact law_8 C0 F I hk hcs hl i1 i2 i3 go
        · refine lv_tableIn (off := 358) (tgt := 390) hx hb dL_law_32 (by omega) (by omega) (by rw [ev]; rfl) (by decide) ?_
          exact law_9 C0 F I hk hcs hl i1 i2 i3 go
        · refine lv_tableIn (off := 391) (tgt := 423) hx hb dL_law_32 (by omega) (by omega) (by rw [ev]; rfl) (by decide) ?_
          exact law_10 C0 F I hk hcs hl i1 i2 i3 go
        · refine lv_tableIn (off := 414) (tgt := 446) hx hb dL_law_32 (by omega) (by omega) (by rw [ev]; rfl) (by decide) ?_
          exact law_11 C0 F I hk hcs hl i1 i2 i3 go
