/-! rows of my layer: fields, arrays, calls, returns -/
theorem RG.i {X : WX} {M : Mem} (h : RG X M) {q : Nat} (hL : xL X q = false) (i : Int) : rg (M q i) := (h q i).2 hL
theorem RG.l {X : WX} {M : Mem} (h : RG X M) {q : Nat} (hL : xL X q = true) (i : Int) : rl (M q i) := (h q i).1 hL
theorem RG.upi {X : WX} {M : Mem} (h : RG X M) {q : Nat} (hL : xL X q = false) {i v : Int} (g : rg v) : RG X (up M q i v) := by
  intro c j
  by_cases hc : c = q
  · subst hc
    rw [up_at]
    refine ⟨fun h1 => absurd (hL.symm.trans h1) (by decide), fun _ => ?_⟩
    show rg (if j = i then v else M c j)
    split
    · exact g
    · exact h.i hL j
  · rw [up_off hc]
    exact h c j
theorem RG.upl {X : WX} {M : Mem} (h : RG X M) {q : Nat} (hL : xL X q = true) {i v : Int} (g : rl v) : RG X (up M q i v) := by
  intro c j
  by_cases hc : c = q
  · subst hc
    rw [up_at]
    refine ⟨fun _ => ?_, fun h1 => absurd (hL.symm.trans h1) (by decide)⟩
    show rl (if j = i then v else M c j)
    split
    · exact g
    · exact h.l hL j
  · rw [up_off hc]
    exact h c j
def ai (f : Int → Int) : Nat → Int32 := fun j => Int32.ofInt (f (j : Int))
def al (f : Int → Int) : Nat → Int64 := fun j => Int64.ofInt (f (j : Int))
theorem ai_at {f : Int → Int} {i : Int} (h : 0 ≤ i) : ai f i.toNat = Int32.ofInt (f i) := by unfold ai; rw [Int.toNat_of_nonneg h]
theorem al_at {f : Int → Int} {i : Int} (h : 0 ≤ i) : al f i.toNat = Int64.ofInt (f i) := by unfold al; rw [Int.toNat_of_nonneg h]
theorem ai_up {f : Int → Int} {i v : Int} (h : 0 ≤ i) : ai (fun j => if j = i then v else f j) = upd (ai f) i.toNat (Int32.ofInt v) := by
  funext j
  unfold ai upd
  dsimp only
  by_cases hj : (j : Int) = i
  · rw [if_pos hj, if_pos (by omega)]
  · rw [if_neg hj, if_neg (by omega)]
theorem al_up {f : Int → Int} {i v : Int} (h : 0 ≤ i) : al (fun j => if j = i then v else f j) = vp_updL (al f) i.toNat (Int64.ofInt v) := by
  funext j
  unfold al vp_updL
  dsimp only
  by_cases hj : (j : Int) = i
  · rw [if_pos hj, if_pos (by omega)]
  · rw [if_neg hj, if_neg (by omega)]
section ROWS
variable {X : WX} {mc : MC} {Q : Option Value → Mem → Prop} {pc : Nat} {lv : List (Nat × Value)} {st : List Value} {M : Mem}
theorem a_iald {q n t : Nat} {cA : ClassId} {i : Int} (hq : q < xK X) (he : xE X q (M q) = .inl (cA, n, .inl (ai (M q)))) (ht : (xty X)[t]? = some (cA, .int)) (hL : xL X q = false) (hn : n < 2147483648) (d : decode mc.2.1 pc = .ok (.iaload, 1)) (b : 0 ≤ i ∧ i < (n : Int)) (k : rg (M q i) → AW X mc Q (pc + 1) lv (vi (M q i) :: st) M) : AW X mc Q pc lv (vi i :: .ref (xad X q) :: st) M :=
  fun hR p e s m args below meth c H locs ls C hP hS hl => va_iald C.1 C.2.1 C.2.2.2.2.2.2.2.1 hP q t ((xw_get X M hq).trans (by rw [he])) ht (in_I hn b) d (by
    rw [cl_I hn b, ai_at b.1]
    exact k (hR.i hL i) hR p e s m args below meth c H locs ls C hP hS hl)
theorem a_zald {q n t : Nat} {cA : ClassId} {i : Int} (hq : q < xK X) (he : xE X q (M q) = .inl (cA, n, .inl (ai (M q)))) (ht : (xty X)[t]? = some (cA, .boolean)) (hL : xL X q = false) (hn : n < 2147483648) (d : decode mc.2.1 pc = .ok (.baload, 1)) (b : 0 ≤ i ∧ i < (n : Int)) (k : rg (M q i) → AW X mc Q (pc + 1) lv (vi (M q i) :: st) M) : AW X mc Q pc lv (vi i :: .ref (xad X q) :: st) M :=
  fun hR p e s m args below meth c H locs ls C hP hS hl => va_zald C.1 C.2.1 C.2.2.2.2.2.2.2.1 hP q t ((xw_get X M hq).trans (by rw [he])) ht (in_I hn b) d (by
    rw [cl_I hn b, ai_at b.1]
    exact k (hR.i hL i) hR p e s m args below meth c H locs ls C hP hS hl)
theorem a_lald {q n t : Nat} {cA : ClassId} {i : Int} (hq : q < xK X) (he : xE X q (M q) = .inl (cA, n, .inr (.inl (al (M q))))) (ht : (xty X)[t]? = some (cA, .long)) (hL : xL X q = true) (hn : n < 2147483648) (d : decode mc.2.1 pc = .ok (.laload, 1)) (b : 0 ≤ i ∧ i < (n : Int)) (k : rl (M q i) → AW X mc Q (pc + 1) lv (vl (M q i) :: st) M) : AW X mc Q pc lv (vi i :: .ref (xad X q) :: st) M :=
  fun hR p e s m args below meth c H locs ls C hP hS hl => va_lald C.1 C.2.1 C.2.2.2.2.2.2.2.1 hP q t ((xw_get X M hq).trans (by rw [he])) ht (in_I hn b) d (by
    rw [cl_I hn b, al_at b.1]
    exact k (hR.l hL i) hR p e s m args below meth c H locs ls C hP hS hl)
theorem a_iast {q n t : Nat} {cA : ClassId} {i v : Int} (hq : q < xK X) (he : ∀ f, xE X q f = .inl (cA, n, .inl (ai f))) (ht : (xty X)[t]? = some (cA, .int)) (hL : xL X q = false) (hn : n < 2147483648) (d : decode mc.2.1 pc = .ok (.iastore, 1)) (b : 0 ≤ i ∧ i < (n : Int)) (g : rg v) (k : AW X mc Q (pc + 1) lv st (up M q i v)) : AW X mc Q pc lv (vi v :: vi i :: .ref (xad X q) :: st) M :=
  fun hR p e s m args below meth c H locs ls C hP hS hl => va_iast C.1 C.2.1 C.2.2.2.2.2.2.2.1 hP (C.2.2.2.2.2.2.2.2 M) hS q t ((xw_get X M hq).trans (by rw [he])) ht (in_I hn b) d (fun H1 locs1 hP1 _ hS1 => by
    rw [cl_I hn b, xw_set X M (up M q i v) _ (by rw [up_at, he, ai_up b.1]) (fun c hc => up_off hc)] at hP1
    exact k (hR.upi hL g) p e s m args below meth c H1 locs1 ls C hP1 hS1 hl)
theorem a_last {q n t : Nat} {cA : ClassId} {i v : Int} (hq : q < xK X) (he : ∀ f, xE X q f = .inl (cA, n, .inr (.inl (al f)))) (ht : (xty X)[t]? = some (cA, .long)) (hL : xL X q = true) (hn : n < 2147483648) (d : decode mc.2.1 pc = .ok (.lastore, 1)) (b : 0 ≤ i ∧ i < (n : Int)) (g : rl v) (k : AW X mc Q (pc + 1) lv st (up M q i v)) : AW X mc Q pc lv (vl v :: vi i :: .ref (xad X q) :: st) M :=
  fun hR p e s m args below meth c H locs ls C hP hS hl => va_last C.1 C.2.1 C.2.2.2.2.2.2.2.1 hP (C.2.2.2.2.2.2.2.2 M) hS q t ((xw_get X M hq).trans (by rw [he])) ht (in_I hn b) d (fun H1 locs1 hP1 _ hS1 => by
    rw [cl_I hn b, xw_set X M (up M q i v) _ (by rw [up_at, he, al_up b.1]) (fun c hc => up_off hc)] at hP1
    exact k (hR.upl hL g) p e s m args below meth c H1 locs1 ls C hP1 hS1 hl)
theorem nz_b {v : Int} (h : b01 v) : vp_nar .boolean (Int32.ofInt v) = Int32.ofInt v := by
  rcases h with h | h <;> subst h <;> rfl
theorem rg_b {v : Int} (h : b01 v) : rg v := by
  unfold b01 at h
  unfold rg
  omega
theorem a_zast {q n t : Nat} {cA : ClassId} {i v : Int} (hq : q < xK X) (he : ∀ f, xE X q f = .inl (cA, n, .inl (ai f))) (ht : (xty X)[t]? = some (cA, .boolean)) (hL : xL X q = false) (hn : n < 2147483648) (d : decode mc.2.1 pc = .ok (.bastore, 1)) (b : 0 ≤ i ∧ i < (n : Int)) (g : b01 v) (k : AW X mc Q (pc + 1) lv st (up M q i v)) : AW X mc Q pc lv (vi v :: vi i :: .ref (xad X q) :: st) M :=
  fun hR p e s m args below meth c H locs ls C hP hS hl => va_zast C.1 C.2.1 C.2.2.2.2.2.2.2.1 hP (C.2.2.2.2.2.2.2.2 M) hS q t ((xw_get X M hq).trans (by rw [he])) ht (in_I hn b) d (fun H1 locs1 hP1 _ hS1 => by
    rw [cl_I hn b, nz_b g, xw_set X M (up M q i v) _ (by rw [up_at, he, ai_up b.1]) (fun c hc => up_off hc)] at hP1
    exact k (hR.upi hL (rg_b g)) p e s m args below meth c H1 locs1 ls C hP1 hS1 hl)
theorem a_alen {q n t : Nat} {cA : ClassId} {x : vp_A} {ty : FieldType} (hq : q < xK X) (he : xE X q (M q) = .inl (cA, x)) (hn : x.1 = n) (ht : (xty X)[t]? = some (cA, ty)) (d : decode mc.2.1 pc = .ok (.arraylength, 1)) (k : AW X mc Q (pc + 1) lv (vi (n : Int) :: st) M) : AW X mc Q pc lv (.ref (xad X q) :: st) M :=
  fun hR p e s m args below meth c H locs ls C hP hS hl => va_alen C.1 C.2.1 C.2.2.2.2.2.2.2.1 hP q t ((xw_get X M hq).trans (by rw [he])) ht (by rw [hn]; exact Int32.ofInt_eq_ofNat.symm) d (k hR p e s m args below meth c H locs ls C hP hS hl)
/-- an array of arrays, that never changes: its rows are the cells from r on -/
def rows (ad : Nat → Nat) (r N : Nat) : Nat → Option Nat := fun j => if j < N then some (ad (r + j)) else none
theorem a_aald {q n r t : Nat} {cA : ClassId} {ty : FieldType} {i : Int} (hq : q < xK X) (he : xE X q (M q) = .inl (cA, n, .inr (.inr (.inr (.inr (rows (xad X) r n)))))) (ht : (xty X)[t]? = some (cA, .array ty)) (hn : n < 2147483648) (d : decode mc.2.1 pc = .ok (.aaload, 1)) (b : 0 ≤ i ∧ i < (n : Int)) (k : AW X mc Q (pc + 1) lv (.ref (xad X (r + i.toNat)) :: st) M) : AW X mc Q pc lv (vi i :: .ref (xad X q) :: st) M :=
  fun hR p e s m args below meth c H locs ls C hP hS hl => by
    have hv : va_rf (rows (xad X) r n i.toNat) = .ref (xad X (r + i.toNat)) := by
      unfold rows
      rw [if_pos (by omega)]
      rfl
    have hcell := hP q _ ((xw_get X M hq).trans (by rw [he]))
    have hin := in_I hn b
    have hlt : i.toNat < n := by omega
    refine W.aald (v := .ref (xad X (r + i.toNat))) (ty := .array ty) C.1 C.2.1 hcell ((C.2.2.2.2.2.2.2.1.2 t _ ht).1 n (fun j => va_rf (rows (xad X) r n j))) rfl (fun q => by cases q) ?_ ?_ rfl rfl d (k hR p e s m args below meth c H locs ls C hP hS hl)
    · show ¬ (Int32.ofInt i < 0 ∨ (arrV _ _ _).slots.size ≤ _)
      rw [arrV_size]
      exact hin
    · show (arrV _ _ _).slots[_]? = _
      rw [cl_I hn b, arrV_read _ _ hlt, hv]
theorem a_get {q ci k N index : Nat} {C : String} {T : u_T} {fs : List Value} {v : Value} (hq : q < xK X) (he : xE X q (M q) = .inr (ci, fs)) (hc : vwCl[ci]? = some (C, T, N)) (hin : ∀ w ∈ u_ws C T N, w ∈ gtb) (hk : k < N) (hw : Cond.fieldLink mc.1 index (T k).1 (T k).2.1 (T k).2.2.1 ∈ gtb) (hv : fs[k]? = some v) (d : decode mc.2.1 pc = .ok (.getfield index, 3)) (kk : AW X mc Q (pc + 3) lv (v :: st) M) : AW X mc Q pc lv (.ref (xad X q) :: st) M :=
  fun hR p e s m args below meth c H locs ls Cc hP hS hl => va_get Cc.1 Cc.2.1 Cc.2.2.2.2.1 hin Cc.2.2.2.2.2.1 Cc.2.2.2.2.2.2.2.1 hP q ((xw_get X M hq).trans (by rw [he])) hc k hk (Cc.2.2.2.2.1 _ hw) (fun _ h => h) hv d (kk hR p e s m args below meth c H locs ls Cc hP hS hl)
theorem a_put {q ci k N index : Nat} {C : String} {T : u_T} {fs : List Value} {v : Int} {ty : FieldType} {ty0 : Nat → FieldType} (hq : q < xK X) (he : xE X q (M q) = .inr (ci, fs)) (he2 : xE X q (fun j => if j = (k : Int) then v else M q j) = .inr (ci, fs.set k (vi v))) (hc : vwCl[ci]? = some (C, T, N)) (hin : ∀ w ∈ u_ws C T N, w ∈ gtb)
    (hty : ∀ k, k < N → parseFieldDescriptor (T k).2.2.1 = some (ty0 k)) (hnm : ∀ a, a < N → ∀ b, b < N → a ≠ b → (T a).2.1 ≠ (T b).2.1) (hk : k < N) (hw : Cond.fieldLink mc.1 index (T k).1 (T k).2.1 (T k).2.2.1 ∈ gtb) (hfin : (T k).2.2.2 = false) (hd : parseFieldDescriptor (T k).2.2.1 = some ty) (hn : narrow ty (vi v) = vi v) (hfit : fits ty (vi v) = true) (hlen : k < fs.length) (hL : xL X q = false)
    (d : decode mc.2.1 pc = .ok (.putfield index, 3)) (g : rg v) (kk : AW X mc Q (pc + 3) lv st (up M q (k : Int) v)) : AW X mc Q pc lv (vi v :: .ref (xad X q) :: st) M :=
  fun hR p e s m args below meth c H locs ls Cc hP hS hl => va_put Cc.1 Cc.2.1 Cc.2.2.2.2.1 hin ty0 hty hnm Cc.2.2.2.2.2.1 Cc.2.2.2.2.2.2.2.1 hP (Cc.2.2.2.2.2.2.2.2 M) hS q ((xw_get X M hq).trans (by rw [he])) hc k hk (Cc.2.2.2.2.1 _ hw) (fun _ h => h) hfin hd hn hfit hlen d (fun H1 locs1 hP1 _ hS1 => by
    rw [xw_set X M (up M q (k : Int) v) _ (by rw [up_at, he2]) (fun c hc => up_off hc)] at hP1
    exact kk (hR.upi hL g) p e s m args below meth c H1 locs1 ls Cc hP1 hS1 hl)
theorem AM.blind {X : WX} {M : Mem} {av : List Value} : FrameBlind (va_Pc av (fun U => va_P (xD X) vwCl (xw X M) U.heap ∧ va_K (xD X) vwCl (xty X) U ∧ ∀ M, va_D (xA X) (xw X M))) := by
  intro a U g mk q
  obtain ⟨q0, qP, qK, qD⟩ := q
  exact ⟨q0, qP, va_K.moved (u := U) (U := U.calling g mk a) (Vm.Alike.refl U.vm) qK, qD⟩
theorem call_go {p : Program} {l : Launch} {e : Env} {R : Room} {s : State} {m : MethodId} {args : Array Value} {below : List Frame} {meth : Method} {c : Code} {H : Heap} {locs : List Loc} {Qf : State → Prop} {ls : Array Slot} {st0 rest : List Value} {a : Array Value} {H0 : Heap} {Q' : Option Value → Mem → Prop}
    (hr : va_Run p l e R s m args below meth c H locs 0 0 0 0 (F0 m pc ls st0) rest (AQ X Q' a) (xA X)) (hS : va_S (xA X) H0 H locs)
    (kk : ∀ (v : Option Value) (M1 : Mem) (H1 : Heap) (locs1 : List Loc), Q' v M1 → RG X M1 → va_P (xD X) vwCl (xw X M1) H1 → va_S (xA X) H0 H1 locs1 → W p l e R s m args below meth c H1 locs1 0 0 Qf (F0 m (pc + 3) ls (v.toList ++ rest))) : W p l e R s m args below meth c H locs 0 0 Qf (F0 m pc ls st0) := by
  intro T hT Xs
  obtain ⟨v, st₀, t, T', L, h0, X', hL, e1, e2, ⟨⟨v2, M1, hv, hq, hR, hP, hK⟩, hz, hk⟩, stp⟩ := hr T hT Xs
  cases hv
  rw [h0] at hz hk
  obtain ⟨t2, a1, b1⟩ := kk v M1 T'.heap (locs ++ L) hq hR (by rw [e1]; exact hP)
    ⟨Nat.le_trans hS.1 (by rw [e1]; exact hz), fun q h1 h2 => by rw [e1, hk q (Nat.lt_of_lt_of_le h1 hS.1) h2]; exact hS.2.1 q h1 h2, fun q hq => by
      rcases List.mem_append.mp hq with h | h
      · exact hS.2.2 q h
      · exact hL q h⟩ T' rfl X'
  exact ⟨t2, stp t2 a1, b1⟩
theorem a_callV {y : MethodName} {mc' : MC} {q ci N index n : Nat} {As rest : List Value} {C : String} {T : u_T} {fs : List Value} {Q' : Option Value → Mem → Prop} (hq : q < xK X) (he : xE X q (M q) = .inr (ci, fs)) (hc : vwCl[ci]? = some (C, T, N))
    (h1 : Cond.methodLink mc.1 index y ∈ gtb) (h2 : Cond.instanceMethod y ∈ gtb) (h3 : Cond.selects C y y ∈ gtb) (h4 : Cond.initialized y.cls ∈ gtb) (h5 : Cond.code y mc'.2.1 mc'.2.2.1 mc'.2.2.2.1 ∈ gtb)
    (hd : y.cls ≠ "java/lang/invoke/MethodHandle" ∧ y.cls ≠ "java/lang/invoke/VarHandle" ∧ (parseMethodDescriptor y.desc).map (fun d => d.parameters.length) = some n) (hn : As.length = n)
    (hR0 : mc'.2.2.2.2.cells = 0 ∧ mc'.2.2.2.2.slots = 0) (hR1 : mc'.2.2.2.2.frames + 1 ≤ mc.2.2.2.2.frames ∧ 8 + (mc'.2.2.1 + 11) + mc'.2.2.2.2.locals ≤ mc.2.2.2.2.locals) (hrm : (rest.map fun v => v.category).sum ≤ 8)
    (hst : st = As.reverse ++ .ref (xad X q) :: rest) (d : decode mc.2.1 pc = .ok (.invokevirtual index, 3)) (hM : AM X y mc' (.ref (xad X q) :: As) M Q')
    (kk : ∀ (v : Option Value) (M1 : Mem), Q' v M1 → AW X mc Q (pc + 3) lv (v.toList ++ rest) M1) : AW X mc Q pc lv st M := by
  intro hR p e s m args below meth c H locs ls Cc hP hS hl
  have hG : GoodIn gtb (Cond.code y mc'.2.1 mc'.2.2.1 mc'.2.2.2.1 :: gtb) := fun w hw => by
    rcases List.mem_cons.mp hw with h | h
    · subst h
      exact ⟨h5, good_of_word (tbl_good _ h5)⟩
    · exact ⟨h, good_of_word (tbl_good _ h)⟩
  have hts := Cc.2.2.2.2.1
  have hcb : CallB mc.2.2.2.2 s args mc.1 index y mc'.2.1 mc'.2.2.1 mc'.2.2.2.1 (Cond.code y mc'.2.1 mc'.2.2.1 mc'.2.2.2.1 :: gtb) mc'.2.2.2.2 0 0 n := callB_of n hts hG rfl hR0.1 hR0.2 (hts _ h4) (hts _ h1) hd hR1
  refine call_go (va_runV (As := As) (rest := rest) (nL := mc.2.2.1) ⟨Cc.1, Cc.2.1, Cc.2.2.2.1, Cc.2.2.2.2.2.1, hts⟩ (hM hR) ⟨hcb, hts _ h2, hts _ h3⟩ ⟨AM.blind, ?_, fun U hU hW => ⟨rfl, by rw [hU]; exact hP, va_K.moved hW.alike Cc.2.2.2.2.2.2.2.1, Cc.2.2.2.2.2.2.2.2⟩⟩ rfl hn hl.1 hst (lv_room hrm) d ⟨Nat.zero_le _, Nat.zero_le _⟩) hS (fun v M1 H1 locs1 hq1 hR1 hP1 hS1 => kk v M1 hq1 hR1 p e s m args below meth c H1 locs1 ls Cc hP1 hS1 hl)
  exact va_recv Cc.2.2.2.2.2.2.2.1 hP hc ((xw_get X M hq).trans (by rw [he]))
theorem a_callS {y : MethodName} {mc' : MC} {index n : Nat} {As rest : List Value} {Q' : Option Value → Mem → Prop}
    (h1 : Cond.methodLink mc.1 index y ∈ gtb) (h2 : Cond.static y ∈ gtb) (h4 : Cond.initialized y.cls ∈ gtb) (h5 : Cond.code y mc'.2.1 mc'.2.2.1 mc'.2.2.2.1 ∈ gtb)
    (hd : y.cls ≠ "java/lang/invoke/MethodHandle" ∧ y.cls ≠ "java/lang/invoke/VarHandle" ∧ (parseMethodDescriptor y.desc).map (fun d => d.parameters.length) = some n) (hn : As.length = n)
    (hR0 : mc'.2.2.2.2.cells = 0 ∧ mc'.2.2.2.2.slots = 0) (hR1 : mc'.2.2.2.2.frames + 1 ≤ mc.2.2.2.2.frames ∧ 8 + (mc'.2.2.1 + 11) + mc'.2.2.2.2.locals ≤ mc.2.2.2.2.locals) (hrm : (rest.map fun v => v.category).sum ≤ 8)
    (hst : st = As.reverse ++ rest) (d : decode mc.2.1 pc = .ok (.invokestatic index, 3)) (hM : AM X y mc' As M Q')
    (kk : ∀ (v : Option Value) (M1 : Mem), Q' v M1 → AW X mc Q (pc + 3) lv (v.toList ++ rest) M1) : AW X mc Q pc lv st M := by
  intro hR p e s m args below meth c H locs ls Cc hP hS hl
  have hG : GoodIn gtb (Cond.code y mc'.2.1 mc'.2.2.1 mc'.2.2.2.1 :: gtb) := fun w hw => by
    rcases List.mem_cons.mp hw with h | h
    · subst h
      exact ⟨h5, good_of_word (tbl_good _ h5)⟩
    · exact ⟨h, good_of_word (tbl_good _ h)⟩
  have hts := Cc.2.2.2.2.1
  have hcb : CallB mc.2.2.2.2 s args mc.1 index y mc'.2.1 mc'.2.2.1 mc'.2.2.2.1 (Cond.code y mc'.2.1 mc'.2.2.1 mc'.2.2.2.1 :: gtb) mc'.2.2.2.2 0 0 n := callB_of n hts hG rfl hR0.1 hR0.2 (hts _ h4) (hts _ h1) hd hR1
  exact call_go (va_runS (As := As) (rest := rest) (nL := mc.2.2.1) ⟨Cc.1, Cc.2.1, Cc.2.2.2.1, Cc.2.2.2.2.2.1, hts⟩ (hM hR) ⟨hcb, hts _ h2⟩ ⟨AM.blind, fun U hU hW => ⟨rfl, by rw [hU]; exact hP, va_K.moved hW.alike Cc.2.2.2.2.2.2.2.1, Cc.2.2.2.2.2.2.2.2⟩⟩ rfl hn hl.1 hst (lv_room hrm) d ⟨Nat.zero_le _, Nat.zero_le _⟩) hS (fun v M1 H1 locs1 hq1 hR1 hP1 hS1 => kk v M1 hq1 hR1 p e s m args below meth c H1 locs1 ls Cc hP1 hS1 hl)
/-- the ends: an int, a long, nothing -/
def qI (Q : Int → Mem → Prop) : Option Value → Mem → Prop := fun v M => ∃ a : Int, v = some (vi a) ∧ rg a ∧ Q a M
def qL (Q : Int → Mem → Prop) : Option Value → Mem → Prop := fun v M => ∃ a : Int, v = some (vl a) ∧ rl a ∧ Q a M
def qV (Q : Mem → Prop) : Option Value → Mem → Prop := fun v M => v = none ∧ Q M
theorem a_iret {Q : Int → Mem → Prop} {a : Int} (hr : mc.2.2.2.1 = some .int) (d : decode mc.2.1 pc = .ok (.ireturn, 1)) (g : rg a) (h : Q a M) : AW X mc (qI Q) pc lv [vi a] M :=
  fun hR p e s m args below meth c H locs ls C hP hS hl => W.iret (v := Int32.ofInt a) C.1 C.2.1 (C.2.2.1.trans hr) (fun t ht hW => ⟨⟨some (vi a), M, rfl, ⟨a, rfl, g, h⟩, hR, by rw [ht]; exact hP, va_K.moved hW.alike C.2.2.2.2.2.2.2.1⟩, hS.F ht⟩) hS.2.2 d C.2.2.2.2.2.2.1
theorem a_zret {Q : Int → Mem → Prop} {a : Int} (hr : mc.2.2.2.1 = some .boolean) (d : decode mc.2.1 pc = .ok (.ireturn, 1)) (g : b01 a) (h : Q a M) : AW X mc (qI Q) pc lv [vi a] M :=
  fun hR p e s m args below meth c H locs ls C hP hS hl => W.zret (v := Int32.ofInt a) C.1 C.2.1 (C.2.2.1.trans hr) (by rcases g with g | g <;> subst g <;> rfl) (fun t ht hW => ⟨⟨some (vi a), M, rfl, ⟨a, rfl, rg_b g, h⟩, hR, by rw [ht]; exact hP, va_K.moved hW.alike C.2.2.2.2.2.2.2.1⟩, hS.F ht⟩) hS.2.2 d C.2.2.2.2.2.2.1
theorem a_lret {Q : Int → Mem → Prop} {a : Int} (hr : mc.2.2.2.1 = some .long) (d : decode mc.2.1 pc = .ok (.lreturn, 1)) (g : rl a) (h : Q a M) : AW X mc (qL Q) pc lv [vl a] M :=
  fun hR p e s m args below meth c H locs ls C hP hS hl => W.lret (v := Int64.ofInt a) C.1 C.2.1 (C.2.2.1.trans hr) (fun t ht hW => ⟨⟨some (vl a), M, rfl, ⟨a, rfl, g, h⟩, hR, by rw [ht]; exact hP, va_K.moved hW.alike C.2.2.2.2.2.2.2.1⟩, hS.F ht⟩) hS.2.2 d C.2.2.2.2.2.2.1
theorem a_vret {Q : Mem → Prop} (hr : mc.2.2.2.1 = none) (d : decode mc.2.1 pc = .ok (.return_, 1)) (h : Q M) : AW X mc (qV Q) pc lv [] M :=
  fun hR p e s m args below meth c H locs ls C hP hS hl => W.vret C.1 C.2.1 (C.2.2.1.trans hr) (fun t ht hW => ⟨⟨none, M, rfl, ⟨rfl, h⟩, hR, by rw [ht]; exact hP, va_K.moved hW.alike C.2.2.2.2.2.2.2.1⟩, hS.F ht⟩) hS.2.2 d C.2.2.2.2.2.2.1
end ROWS
