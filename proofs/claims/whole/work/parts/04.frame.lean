/-! MY LAYER: memory of whole numbers, cells by number; AW: the machine at a pc of a method over such a memory; AM: a method's contract -/
abbrev Mem : Type := Nat → Int → Int
def rg (a : Int) : Prop := -2147483648 ≤ a ∧ a ≤ 2147483647
def rl (a : Int) : Prop := -9223372036854775808 ≤ a ∧ a ≤ 9223372036854775807
def b01 (a : Int) : Prop := a = 0 ∨ a = 1
def vi (a : Int) : Value := .int (Int32.ofInt a)
def vl (a : Int) : Value := .long (Int64.ofInt a)
def up (M : Mem) (c : Nat) (i v : Int) : Mem := fun c' => if c' = c then fun j => if j = i then v else M c j else M c'
theorem up_at (M : Mem) (c : Nat) (i v : Int) : up M c i v c = fun j => if j = i then v else M c j := by simp [up]
theorem up_off {M : Mem} {c c' : Nat} {i v : Int} (h : c' ≠ c) : up M c i v c' = M c' := by simp [up, h]
abbrev WX : Type := Launch × va_G × (Nat → Nat) × Nat × (Nat → (Int → Int) → va_E) × List (ClassId × FieldType) × (Nat → Bool)
def xl (X : WX) : Launch := X.1
def xD (X : WX) : va_G := X.2.1
def xad (X : WX) : Nat → Nat := X.2.2.1
def xK (X : WX) : Nat := X.2.2.2.1
def xE (X : WX) : Nat → (Int → Int) → va_E := X.2.2.2.2.1
def xty (X : WX) : List (ClassId × FieldType) := X.2.2.2.2.2.1
def xL (X : WX) : Nat → Bool := X.2.2.2.2.2.2
def xw (X : WX) (M : Mem) : va_W := (List.range (xK X)).map (fun c => (xad X c, xE X c (M c)))
def xA (X : WX) : Nat → Prop := fun q => ∃ k : Nat, k < xK X ∧ q = xad X k
def RG (X : WX) (M : Mem) : Prop := ∀ (c : Nat) (i : Int), (xL X c = true → rl (M c i)) ∧ (xL X c = false → rg (M c i))
abbrev MC : Type := String × ByteArray × Nat × Option FieldType × Room
def rmL (d : Nat) : Room := { frames := d, cells := 0, slots := 0, locals := 40 * d }
theorem xw_get (X : WX) (M : Mem) {q : Nat} (h : q < xK X) : (xw X M)[q]? = some (xad X q, xE X q (M q)) := by
  simp [xw, h]
theorem xw_set (X : WX) (M M' : Mem) {q : Nat} (e : va_E) (he : xE X q (M' q) = e) (ho : ∀ c, c ≠ q → M' c = M c) : (xw X M).set q (xad X q, e) = xw X M' := by
  apply List.ext_getElem?
  intro j
  rw [List.getElem?_set]
  by_cases hj : q = j
  · subst hj
    by_cases hl : q < xK X
    · simp [xw, hl, he]
    · simp [xw, hl]
  · rw [if_neg hj]
    by_cases hl : j < xK X
    · rw [xw_get X M hl, xw_get X M' hl, ho j (fun h => hj h.symm)]
    · simp [xw, hl]
def gtb : List Cond := lw_tbl.filter goodWord
theorem tbl_good : ∀ w ∈ gtb, goodWord w = true := fun _ h => (List.mem_filter.mp h).2
theorem gtb_in {w : Cond} (h : w ∈ lw_tbl) (g : goodWord w = true) : w ∈ gtb := List.mem_filter.mpr ⟨h, g⟩
def AC (X : WX) (mc : MC) (p : Program) (s : State) (m : MethodId) (args : Array Value) (meth : Method) (c : Code) : Prop :=
  p.tables.exec = Jvm.exec ∧ c.code = mc.2.1 ∧ meth.sig.returnType = mc.2.2.2.1 ∧ c.maxLocals = mc.2.2.1 ∧ (∀ w ∈ gtb, w.before args s = true) ∧ s.vm.findClass mc.1 = some m.cls ∧ meth.locks = false ∧ va_K (xD X) vwCl (xty X) s ∧ ∀ M, va_D (xA X) (xw X M)
def AQ (X : WX) (Q : Option Value → Mem → Prop) : Array Value → State → Outcome → State → Prop := fun _ st oc t =>
  (∃ (v : Option Value) (M : Mem), oc = .returned v ∧ Q v M ∧ RG X M ∧ va_P (xD X) vwCl (xw X M) t.heap ∧ va_K (xD X) vwCl (xty X) t) ∧ va_F (xA X) st t
def AW (X : WX) (mc : MC) (Q : Option Value → Mem → Prop) (pc : Nat) (lv : List (Nat × Value)) (st : List Value) (M : Mem) : Prop :=
  RG X M → ∀ (p : Program) (e : Env) (s : State) (m : MethodId) (args : Array Value) (below : List Frame) (meth : Method) (c : Code) (H : Heap) (locs : List Loc) (ls : Array Slot),
    AC X mc p s m args meth c → va_P (xD X) vwCl (xw X M) H → va_S (xA X) s.heap H locs → lv_has ls mc.2.2.1 lv →
    W p (xl X) e mc.2.2.2.2 s m args below meth c H locs 0 0 (MQ below (AQ X Q) args s 0 0 (xA X)) (F0 m pc ls st)
def AM (X : WX) (y : MethodName) (mc : MC) (av : List Value) (M : Mem) (Q : Option Value → Mem → Prop) : Prop :=
  RG X M → Met (xl X) y (.code y mc.2.1 mc.2.2.1 mc.2.2.2.1 :: gtb) mc.2.2.2.2 (va_Pc av (fun U => va_P (xD X) vwCl (xw X M) U.heap ∧ va_K (xD X) vwCl (xty X) U ∧ ∀ M, va_D (xA X) (xw X M))) (AQ X Q) 0 0 (xA X)
theorem gtb_all (ws : List Cond) (h : ∀ w ∈ ws, w ∈ lw_tbl) (g : ws.all goodWord = true) : ∀ w ∈ ws, w ∈ gtb := fun w hw => gtb_in (h w hw) (List.all_eq_true.mp g w hw)
theorem AM.ofAW {X : WX} {y : MethodName} {mc : MC} {av : List Value} {M : Mem} {Q : Option Value → Mem → Prop} (hy : plainName y.cls = true) (hc : mc.1 = y.cls) (hl : (lg_sl av).length ≤ mc.2.2.1)
    (k : AW X mc Q 0 (lv_args 0 av) [] M) : AM X y mc av M Q := by
  intro hR
  refine Met.ofW (cc := mc.2.1) (maxL := mc.2.2.1) (ret := mc.2.2.2.1) hy rfl ?_
  intro p e s m args below meth c s₁ B hml hv
  obtain ⟨rfl, hP, hK, hD⟩ := hv
  have hts := atoms_spec (ws := .code y mc.2.1 mc.2.2.1 mc.2.2.2.1 :: gtb) B.pre
  have hown : s.vm.findClass y.cls = some m.cls := findClass_of_methodNamed B.named
  rw [lg_entry_eq]
  exact k hR p e s m av.toArray below meth c s.heap [] _ ⟨B.exec, B.bytes, B.returns, hml, fun w h => hts w (List.mem_cons_of_mem _ h), by rw [hc]; exact hown, B.notSynchronized, hK, hD⟩ hP va_S.rf (lv_entry av hl)
section ROWS
variable {X : WX} {mc : MC} {Q : Option Value → Mem → Prop} {pc : Nat} {lv : List (Nat × Value)} {st : List Value} {M : Mem}
theorem AW.pick (ks : List Nat) {lv' : List (Nat × Value)} (h : lv_pick lv ks = lv') (k : AW X mc Q pc lv' st M) : AW X mc Q pc lv st M :=
  fun hR p e s m args below meth c H locs ls C hP hS hl => k hR p e s m args below meth c H locs ls C hP hS (lv_sub hl ks h)
theorem AW.rng (k : RG X M → AW X mc Q pc lv st M) : AW X mc Q pc lv st M := fun hR => k hR hR
theorem a_iconst {n : Int} (d : decode mc.2.1 pc = .ok (.iconst n, 1)) (k : AW X mc Q (pc + 1) lv (vi n :: st) M) : AW X mc Q pc lv st M :=
  fun hR p e s m args below meth c H locs ls C hP hS hl => lv_iconst C.1 C.2.1 d rfl (k hR p e s m args below meth c H locs ls C hP hS hl)
theorem n_i8 {n : Int} (h : -128 ≤ n ∧ n ≤ 127) : (Int8.ofInt n).toInt32 = Int32.ofInt n := by
  apply Int32.toInt_inj.mp
  rw [Int8.toInt_toInt32, Int8.toInt_ofInt_of_le (by omega) (by omega), Int32.toInt_ofInt_of_le (by omega) (by omega)]
theorem n_i16 {n : Int} (h : -32768 ≤ n ∧ n ≤ 32767) : (Int16.ofInt n).toInt32 = Int32.ofInt n := by
  apply Int32.toInt_inj.mp
  rw [Int16.toInt_toInt32, Int16.toInt_ofInt_of_le (by omega) (by omega), Int32.toInt_ofInt_of_le (by omega) (by omega)]
theorem a_bipush {n : Int} (h : -128 ≤ n ∧ n ≤ 127) (d : decode mc.2.1 pc = .ok (.bipush n, 2)) (k : AW X mc Q (pc + 2) lv (vi n :: st) M) : AW X mc Q pc lv st M :=
  fun hR p e s m args below meth c H locs ls C hP hS hl => lv_bipush C.1 C.2.1 d (n_i8 h) (k hR p e s m args below meth c H locs ls C hP hS hl)
theorem a_sipush {n : Int} (h : -32768 ≤ n ∧ n ≤ 32767) (d : decode mc.2.1 pc = .ok (.sipush n, 3)) (k : AW X mc Q (pc + 3) lv (vi n :: st) M) : AW X mc Q pc lv st M :=
  fun hR p e s m args below meth c H locs ls C hP hS hl => lv_sipush C.1 C.2.1 d (n_i16 h) (k hR p e s m args below meth c H locs ls C hP hS hl)
theorem a_lconst {n : Fin 2} {v : Int} (hv : Int64.ofNat (n : Nat) = Int64.ofInt v) (d : decode mc.2.1 pc = .ok (.lconst n, 1)) (k : AW X mc Q (pc + 1) lv (vl v :: st) M) : AW X mc Q pc lv st M :=
  fun hR p e s m args below meth c H locs ls C hP hS hl => lv_lconst C.1 C.2.1 d hv (k hR p e s m args below meth c H locs ls C hP hS hl)
theorem a_ldc {index : Nat} {v : Int32} {n : Int} (hw : Cond.constant mc.1 index v ∈ gtb) (hv : v = Int32.ofInt n) (d : decode mc.2.1 pc = .ok (.ldc index, 2)) (k : AW X mc Q (pc + 2) lv (vi n :: st) M) : AW X mc Q pc lv st M :=
  fun hR p e s m args below meth c H locs ls C hP hS hl => by
    subst hv
    exact lv_ldc C.1 C.2.1 C.2.2.2.2.2.1 (C.2.2.2.2.1 _ hw) d (k hR p e s m args below meth c H locs ls C hP hS hl)
theorem a_ldc2 {index : Nat} {v : Int64} {n : Int} (hw : Cond.constantLong mc.1 index v ∈ gtb) (hv : v = Int64.ofInt n) (d : decode mc.2.1 pc = .ok (.ldc2_w index, 3)) (k : AW X mc Q (pc + 3) lv (vl n :: st) M) : AW X mc Q pc lv st M :=
  fun hR p e s m args below meth c H locs ls C hP hS hl => by
    subst hv
    exact lv_ldc2 C.1 C.2.1 C.2.2.2.2.2.1 (C.2.2.2.2.1 _ hw) d (k hR p e s m args below meth c H locs ls C hP hS hl)
theorem a_iload_n {i : Fin 4} {x : Int} (j : Nat) (hj : lv[j]? = some ((i : Nat), vi x)) (d : decode mc.2.1 pc = .ok (.iload_n i, 1)) (k : AW X mc Q (pc + 1) lv (vi x :: st) M) : AW X mc Q pc lv st M :=
  fun hR p e s m args below meth c H locs ls C hP hS hl => lv_iload_n C.1 C.2.1 d rfl (lv_at hl j hj) (k hR p e s m args below meth c H locs ls C hP hS hl)
theorem a_iload {i : Nat} {x : Int} (j : Nat) (hj : lv[j]? = some (i, vi x)) (d : decode mc.2.1 pc = .ok (.iload i, 2)) (k : AW X mc Q (pc + 2) lv (vi x :: st) M) : AW X mc Q pc lv st M :=
  fun hR p e s m args below meth c H locs ls C hP hS hl => lv_iload C.1 C.2.1 d (lv_at hl j hj) (k hR p e s m args below meth c H locs ls C hP hS hl)
theorem a_lload_n {i : Fin 4} {x : Int} (j : Nat) (hj : lv[j]? = some ((i : Nat), vl x)) (d : decode mc.2.1 pc = .ok (.lload_n i, 1)) (k : AW X mc Q (pc + 1) lv (vl x :: st) M) : AW X mc Q pc lv st M :=
  fun hR p e s m args below meth c H locs ls C hP hS hl => lv_lload_n C.1 C.2.1 d rfl (lv_at hl j hj) (k hR p e s m args below meth c H locs ls C hP hS hl)
theorem a_lload {i : Nat} {x : Int} (j : Nat) (hj : lv[j]? = some (i, vl x)) (d : decode mc.2.1 pc = .ok (.lload i, 2)) (k : AW X mc Q (pc + 2) lv (vl x :: st) M) : AW X mc Q pc lv st M :=
  fun hR p e s m args below meth c H locs ls C hP hS hl => lv_lload C.1 C.2.1 d (lv_at hl j hj) (k hR p e s m args below meth c H locs ls C hP hS hl)
theorem a_aload_n {i : Fin 4} {x : Nat} (j : Nat) (hj : lv[j]? = some ((i : Nat), .ref x)) (d : decode mc.2.1 pc = .ok (.aload_n i, 1)) (k : AW X mc Q (pc + 1) lv (.ref x :: st) M) : AW X mc Q pc lv st M :=
  fun hR p e s m args below meth c H locs ls C hP hS hl => lv_aload_n C.1 C.2.1 d rfl (lv_at hl j hj) (k hR p e s m args below meth c H locs ls C hP hS hl)
theorem a_istore_n {i : Fin 4} {x : Int} {lv' : List (Nat × Value)} (hn : (i : Nat) < mc.2.2.1) (hl' : ((i : Nat), vi x) :: lv.filter (fun q => !(q.1 == (i : Nat)) && !(q.1 + 1 == (i : Nat) && q.2.category == 2)) = lv') (d : decode mc.2.1 pc = .ok (.istore_n i, 1)) (k : AW X mc Q (pc + 1) lv' st M) : AW X mc Q pc lv (vi x :: st) M :=
  fun hR p e s m args below meth c H locs ls C hP hS hl => lv_istore_n C.1 C.2.1 d rfl hl hn hl' (fun ls hl => k hR p e s m args below meth c H locs ls C hP hS hl)
theorem a_istore {i : Nat} {x : Int} {lv' : List (Nat × Value)} (hn : i < mc.2.2.1) (hl' : (i, vi x) :: lv.filter (fun q => !(q.1 == i) && !(q.1 + 1 == i && q.2.category == 2)) = lv') (d : decode mc.2.1 pc = .ok (.istore i, 2)) (k : AW X mc Q (pc + 2) lv' st M) : AW X mc Q pc lv (vi x :: st) M :=
  fun hR p e s m args below meth c H locs ls C hP hS hl => lv_istore C.1 C.2.1 d hl hn hl' (fun ls hl => k hR p e s m args below meth c H locs ls C hP hS hl)
theorem a_lstore_n {i : Fin 4} {x : Int} {lv' : List (Nat × Value)} (hn : (i : Nat) + 1 < mc.2.2.1) (hl' : ((i : Nat), vl x) :: lv.filter (fun q => !(q.1 == (i : Nat)) && (!(q.1 == (i : Nat) + 1) && !(q.1 + 1 == (i : Nat) && q.2.category == 2))) = lv') (d : decode mc.2.1 pc = .ok (.lstore_n i, 1)) (k : AW X mc Q (pc + 1) lv' st M) : AW X mc Q pc lv (vl x :: st) M :=
  fun hR p e s m args below meth c H locs ls C hP hS hl => lv_lstore_n C.1 C.2.1 d rfl hl hn hl' (fun ls hl => k hR p e s m args below meth c H locs ls C hP hS hl)
theorem a_lstore {i : Nat} {x : Int} {lv' : List (Nat × Value)} (hn : i + 1 < mc.2.2.1) (hl' : (i, vl x) :: lv.filter (fun q => !(q.1 == i) && (!(q.1 == i + 1) && !(q.1 + 1 == i && q.2.category == 2))) = lv') (d : decode mc.2.1 pc = .ok (.lstore i, 2)) (k : AW X mc Q (pc + 2) lv' st M) : AW X mc Q pc lv (vl x :: st) M :=
  fun hR p e s m args below meth c H locs ls C hP hS hl => lv_lstore C.1 C.2.1 d hl hn hl' (fun ls hl => k hR p e s m args below meth c H locs ls C hP hS hl)
theorem a_astore_n {i : Fin 4} {x : Nat} {lv' : List (Nat × Value)} (hn : (i : Nat) < mc.2.2.1) (hl' : ((i : Nat), Value.ref x) :: lv.filter (fun q => !(q.1 == (i : Nat)) && !(q.1 + 1 == (i : Nat) && q.2.category == 2)) = lv') (d : decode mc.2.1 pc = .ok (.astore_n i, 1)) (k : AW X mc Q (pc + 1) lv' st M) : AW X mc Q pc lv (.ref x :: st) M :=
  fun hR p e s m args below meth c H locs ls C hP hS hl => lv_astore_n C.1 C.2.1 d rfl hl hn hl' (fun ls hl => k hR p e s m args below meth c H locs ls C hP hS hl)
theorem a_iinc {i : Nat} {x n : Int} {lv' : List (Nat × Value)} (j : Nat) (hj : lv[j]? = some (i, vi x)) (hn : i < mc.2.2.1) (hl' : (i, vi (x + n)) :: lv.filter (fun q => !(q.1 == i) && !(q.1 + 1 == i && q.2.category == 2)) = lv') (d : decode mc.2.1 pc = .ok (.iinc i n, 3)) (k : AW X mc Q (pc + 3) lv' st M) : AW X mc Q pc lv st M :=
  fun hR p e s m args below meth c H locs ls C hP hS hl => lv_iinc C.1 C.2.1 d hl hj (Int32.ofInt_add x n).symm hn hl' (fun ls hl => k hR p e s m args below meth c H locs ls C hP hS hl)
theorem AW.e1 {a b : Value} (h : a = b) (k : AW X mc Q pc lv (a :: st) M) : AW X mc Q pc lv (b :: st) M := h ▸ k
end ROWS
