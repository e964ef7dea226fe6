/-! rows of my layer: arithmetic, branches, arrays, fields, calls, returns -/
def bor (a b : Int) : Int := (Int32.ofInt a ||| Int32.ofInt b).toInt
def band (a b : Int) : Int := (Int32.ofInt a &&& Int32.ofInt b).toInt
def bshl (a b : Int) : Int := (Int32.ofInt a <<< (Int32.ofInt b &&& 31)).toInt
def bshr (a b : Int) : Int := (Int32.ofInt a >>> (Int32.ofInt b &&& 31)).toInt
def lbor (a b : Int) : Int := (Int64.ofInt a ||| Int64.ofInt b).toInt
def lbshl (a b : Int) : Int := (Int64.ofInt a <<< ((Int32.ofInt b).toInt64 &&& 63)).toInt
def lbushr (a b : Int) : Int := ((Int64.ofInt a).toUInt64 >>> ((Int32.ofInt b).toInt64.toUInt64 &&& Int64.toUInt64 63)).toInt64.toInt
def bl2i (a : Int) : Int := (Int64.ofInt a).toInt32.toInt
def lcm (a b : Int) : Int := if b < a then 1 else if a = b then 0 else -1
theorem rg_t (x : Int32) : rg x.toInt := by
  have h1 := x.toInt_lt
  have h2 := x.le_toInt
  unfold rg
  omega
theorem rl_t (x : Int64) : rl x.toInt := by
  have h1 := x.toInt_lt
  have h2 := x.le_toInt
  unfold rl
  omega
theorem toI {a : Int} (h : rg a) : (Int32.ofInt a).toInt = a := by
  unfold rg at h
  exact Int32.toInt_ofInt_of_le (by omega) (by omega)
theorem toL {a : Int} (h : rl a) : (Int64.ofInt a).toInt = a := by
  unfold rl at h
  exact Int64.toInt_ofInt_of_le (by omega) (by omega)
theorem lt_I {a b : Int} (ha : rg a) (hb : rg b) : Int32.ofInt a < Int32.ofInt b ↔ a < b := by rw [Int32.lt_iff_toInt_lt, toI ha, toI hb]
theorem le_I {a b : Int} (ha : rg a) (hb : rg b) : Int32.ofInt a ≤ Int32.ofInt b ↔ a ≤ b := by rw [Int32.le_iff_toInt_le, toI ha, toI hb]
theorem eq_I {a b : Int} (ha : rg a) (hb : rg b) : Int32.ofInt a = Int32.ofInt b ↔ a = b := by rw [← Int32.toInt_inj, toI ha, toI hb]
theorem rg_0 : rg 0 := by unfold rg; omega
theorem z_I : (0 : Int32) = Int32.ofInt 0 := rfl
theorem cl_I {i : Int} {n : Nat} (hn : n < 2147483648) (h : 0 ≤ i ∧ i < (n : Int)) : (Int32.ofInt i).toNatClampNeg = i.toNat := Int32.toNatClampNeg_ofInt_of_le (by omega) (by omega)
theorem in_I {i : Int} {n : Nat} (hn : n < 2147483648) (h : 0 ≤ i ∧ i < (n : Int)) : vp_in (Int32.ofInt i) n := by
  intro q
  rcases q with q | q
  · rw [z_I, lt_I (by unfold rg; omega) rg_0] at q
    omega
  · rw [cl_I hn h] at q
    omega
theorem w_band (a b : Int) : Value.int (Int32.ofInt a &&& Int32.ofInt b) = vi (band a b) := by unfold vi band; rw [Int32.ofInt_toInt]
theorem w_bor (a b : Int) : Value.int (Int32.ofInt a ||| Int32.ofInt b) = vi (bor a b) := by unfold vi bor; rw [Int32.ofInt_toInt]
section ROWS
variable {X : WX} {mc : MC} {Q : Option Value → Mem → Prop} {pc : Nat} {lv : List (Nat × Value)} {st : List Value} {M : Mem}
theorem a_iadd {a b : Int} (d : decode mc.2.1 pc = .ok (.iadd, 1)) (k : AW X mc Q (pc + 1) lv (vi (a + b) :: st) M) : AW X mc Q pc lv (vi b :: vi a :: st) M :=
  fun hR p e s m args below meth c H locs ls C hP hS hl => lv_iadd C.1 C.2.1 d (by rw [← Int32.ofInt_add]; exact k hR p e s m args below meth c H locs ls C hP hS hl)
theorem a_isub {a b : Int} (d : decode mc.2.1 pc = .ok (.isub, 1)) (k : AW X mc Q (pc + 1) lv (vi (a - b) :: st) M) : AW X mc Q pc lv (vi b :: vi a :: st) M :=
  fun hR p e s m args below meth c H locs ls C hP hS hl => lv_isub C.1 C.2.1 d (by rw [← Int32.ofInt_sub]; exact k hR p e s m args below meth c H locs ls C hP hS hl)
theorem a_imul {a b : Int} (d : decode mc.2.1 pc = .ok (.imul, 1)) (k : AW X mc Q (pc + 1) lv (vi (a * b) :: st) M) : AW X mc Q pc lv (vi b :: vi a :: st) M :=
  fun hR p e s m args below meth c H locs ls C hP hS hl => lv_imul C.1 C.2.1 d (by rw [← Int32.ofInt_mul]; exact k hR p e s m args below meth c H locs ls C hP hS hl)
theorem a_idiv {a b : Int} (ga : rg a) (gb : rg b) (h0 : b ≠ 0) (d : decode mc.2.1 pc = .ok (.idiv, 1)) (k : AW X mc Q (pc + 1) lv (vi (Int.tdiv a b) :: st) M) : AW X mc Q pc lv (vi b :: vi a :: st) M :=
  fun hR p e s m args below meth c H locs ls C hP hS hl => lv_idiv C.1 C.2.1 d (by rw [z_I, eq_I gb rg_0]; exact h0) (by rw [← Int32.ofInt_tdiv ga.1 ga.2 gb.1 gb.2]; exact k hR p e s m args below meth c H locs ls C hP hS hl)
theorem a_irem {a b : Int} (ga : rg a) (gb : rg b) (h0 : b ≠ 0) (d : decode mc.2.1 pc = .ok (.irem, 1)) (k : AW X mc Q (pc + 1) lv (vi (Int.tmod a b) :: st) M) : AW X mc Q pc lv (vi b :: vi a :: st) M :=
  fun hR p e s m args below meth c H locs ls C hP hS hl => lv_irem C.1 C.2.1 d (by rw [z_I, eq_I gb rg_0]; exact h0) (by
    have h : Int32.ofInt a - Int32.ofInt a / Int32.ofInt b * Int32.ofInt b = Int32.ofInt (Int.tmod a b) := by rw [← Int32.ofInt_tdiv ga.1 ga.2 gb.1 gb.2, ← Int32.ofInt_mul, ← Int32.ofInt_sub, Int.tmod_def, Int.mul_comm]
    rw [h]; exact k hR p e s m args below meth c H locs ls C hP hS hl)
theorem a_iand {a b : Int} (d : decode mc.2.1 pc = .ok (.iand, 1)) (k : AW X mc Q (pc + 1) lv (vi (band a b) :: st) M) : AW X mc Q pc lv (vi b :: vi a :: st) M :=
  fun hR p e s m args below meth c H locs ls C hP hS hl => lv_iand C.1 C.2.1 d (by rw [w_band]; exact k hR p e s m args below meth c H locs ls C hP hS hl)
theorem a_ior {a b : Int} (d : decode mc.2.1 pc = .ok (.ior, 1)) (k : AW X mc Q (pc + 1) lv (vi (bor a b) :: st) M) : AW X mc Q pc lv (vi b :: vi a :: st) M :=
  fun hR p e s m args below meth c H locs ls C hP hS hl => lv_ior C.1 C.2.1 d (by rw [w_bor]; exact k hR p e s m args below meth c H locs ls C hP hS hl)
theorem a_ishl {a b : Int} (d : decode mc.2.1 pc = .ok (.ishl, 1)) (k : AW X mc Q (pc + 1) lv (vi (bshl a b) :: st) M) : AW X mc Q pc lv (vi b :: vi a :: st) M :=
  fun hR p e s m args below meth c H locs ls C hP hS hl => lv_ishl C.1 C.2.1 d (by
    have k := k hR p e s m args below meth c H locs ls C hP hS hl
    unfold vi bshl at k; rw [Int32.ofInt_toInt] at k; exact k)
theorem a_ishr {a b : Int} (d : decode mc.2.1 pc = .ok (.ishr, 1)) (k : AW X mc Q (pc + 1) lv (vi (bshr a b) :: st) M) : AW X mc Q pc lv (vi b :: vi a :: st) M :=
  fun hR p e s m args below meth c H locs ls C hP hS hl => lv_ishr C.1 C.2.1 d (by
    have k := k hR p e s m args below meth c H locs ls C hP hS hl
    unfold vi bshr at k; rw [Int32.ofInt_toInt] at k; exact k)
theorem a_ladd {a b : Int} (d : decode mc.2.1 pc = .ok (.ladd, 1)) (k : AW X mc Q (pc + 1) lv (vl (a + b) :: st) M) : AW X mc Q pc lv (vl b :: vl a :: st) M :=
  fun hR p e s m args below meth c H locs ls C hP hS hl => lv_ladd C.1 C.2.1 d (by rw [← Int64.ofInt_add]; exact k hR p e s m args below meth c H locs ls C hP hS hl)
theorem a_lmul {a b : Int} (d : decode mc.2.1 pc = .ok (.lmul, 1)) (k : AW X mc Q (pc + 1) lv (vl (a * b) :: st) M) : AW X mc Q pc lv (vl b :: vl a :: st) M :=
  fun hR p e s m args below meth c H locs ls C hP hS hl => lv_lmul C.1 C.2.1 d (by rw [← Int64.ofInt_mul]; exact k hR p e s m args below meth c H locs ls C hP hS hl)
theorem eq_L {a b : Int} (ha : rl a) (hb : rl b) : Int64.ofInt a = Int64.ofInt b ↔ a = b := by rw [← Int64.toInt_inj, toL ha, toL hb]
theorem lt_L {a b : Int} (ha : rl a) (hb : rl b) : Int64.ofInt a < Int64.ofInt b ↔ a < b := by rw [Int64.lt_iff_toInt_lt, toL ha, toL hb]
theorem z_L : (0 : Int64) = Int64.ofInt 0 := rfl
theorem rl_0 : rl 0 := by unfold rl; omega
theorem a_ldiv {a b : Int} (ga : rl a) (gb : rl b) (h0 : b ≠ 0) (d : decode mc.2.1 pc = .ok (.ldiv, 1)) (k : AW X mc Q (pc + 1) lv (vl (Int.tdiv a b) :: st) M) : AW X mc Q pc lv (vl b :: vl a :: st) M :=
  fun hR p e s m args below meth c H locs ls C hP hS hl => lv_ldiv C.1 C.2.1 d (by rw [z_L, eq_L gb rl_0]; exact h0) (by rw [← Int64.ofInt_tdiv ga.1 ga.2 gb.1 gb.2]; exact k hR p e s m args below meth c H locs ls C hP hS hl)
theorem a_lor {a b : Int} (d : decode mc.2.1 pc = .ok (.lor, 1)) (k : AW X mc Q (pc + 1) lv (vl (lbor a b) :: st) M) : AW X mc Q pc lv (vl b :: vl a :: st) M :=
  fun hR p e s m args below meth c H locs ls C hP hS hl => lv_lor C.1 C.2.1 d (by
    have k := k hR p e s m args below meth c H locs ls C hP hS hl
    unfold vl lbor at k; rw [Int64.ofInt_toInt] at k; exact k)
theorem a_lshl {a b : Int} (d : decode mc.2.1 pc = .ok (.lshl, 1)) (k : AW X mc Q (pc + 1) lv (vl (lbshl a b) :: st) M) : AW X mc Q pc lv (vi b :: vl a :: st) M :=
  fun hR p e s m args below meth c H locs ls C hP hS hl => lv_lshl C.1 C.2.1 d rfl (by
    have k := k hR p e s m args below meth c H locs ls C hP hS hl
    unfold vl lbshl at k; rw [Int64.ofInt_toInt] at k; exact k)
theorem a_lushr {a b : Int} (d : decode mc.2.1 pc = .ok (.lushr, 1)) (k : AW X mc Q (pc + 1) lv (vl (lbushr a b) :: st) M) : AW X mc Q pc lv (vi b :: vl a :: st) M :=
  fun hR p e s m args below meth c H locs ls C hP hS hl => lv_lushr C.1 C.2.1 d rfl (by
    have k := k hR p e s m args below meth c H locs ls C hP hS hl
    unfold vl lbushr at k; rw [Int64.ofInt_toInt] at k; exact k)
theorem a_l2i {a : Int} (d : decode mc.2.1 pc = .ok (.l2i, 1)) (k : AW X mc Q (pc + 1) lv (vi (bl2i a) :: st) M) : AW X mc Q pc lv (vl a :: st) M :=
  fun hR p e s m args below meth c H locs ls C hP hS hl => lv_l2i C.1 C.2.1 d rfl (by
    have k := k hR p e s m args below meth c H locs ls C hP hS hl
    unfold vi bl2i at k; rw [Int32.ofInt_toInt] at k; exact k)
theorem rl_g {a : Int} (h : rg a) : rl a := by unfold rg at h; unfold rl; omega
theorem a_i2l {a : Int} (ga : rg a) (d : decode mc.2.1 pc = .ok (.i2l, 1)) (k : AW X mc Q (pc + 1) lv (vl a :: st) M) : AW X mc Q pc lv (vi a :: st) M :=
  fun hR p e s m args below meth c H locs ls C hP hS hl => lv_i2l C.1 C.2.1 d (by
    show (Int32.ofInt a).toInt64 = Int64.ofInt a
    apply Int64.toInt_inj.mp
    rw [Int32.toInt_toInt64, toI ga, toL (rl_g ga)]) (k hR p e s m args below meth c H locs ls C hP hS hl)
theorem lcm_I {a b : Int} (ga : rl a) (gb : rl b) : lg_cmp (Int64.ofInt a) (Int64.ofInt b) = Int32.ofInt (lcm a b) := by
  unfold lg_cmp lcm
  simp only [gt_iff_lt, lt_L gb ga, eq_L ga gb]
  split
  · rfl
  · split <;> rfl
theorem a_lcmp {a b : Int} (ga : rl a) (gb : rl b) (d : decode mc.2.1 pc = .ok (.lcmp, 1)) (k : AW X mc Q (pc + 1) lv (vi (lcm a b) :: st) M) : AW X mc Q pc lv (vl b :: vl a :: st) M :=
  fun hR p e s m args below meth c H locs ls C hP hS hl => W.lcmp C.1 C.2.1 d (by rw [lcm_I ga gb]; exact k hR p e s m args below meth c H locs ls C hP hS hl)
theorem rg_lcm (a b : Int) : rg (lcm a b) := by
  unfold lcm rg
  split
  · omega
  · split <;> omega
theorem a_dup {v : Value} (hv : v.category = 1) (d : decode mc.2.1 pc = .ok (.dup, 1)) (k : AW X mc Q (pc + 1) lv (v :: v :: st) M) : AW X mc Q pc lv (v :: st) M :=
  fun hR p e s m args below meth c H locs ls C hP hS hl => lv_dup C.1 C.2.1 d hv (k hR p e s m args below meth c H locs ls C hP hS hl)
theorem a_dup2 {v w : Value} (hv : v.category = 1) (hw : w.category = 1) (d : decode mc.2.1 pc = .ok (.dup2, 1)) (k : AW X mc Q (pc + 1) lv (v :: w :: v :: w :: st) M) : AW X mc Q pc lv (v :: w :: st) M :=
  fun hR p e s m args below meth c H locs ls C hP hS hl => lv_dup2_11 C.1 C.2.1 d hv hw (k hR p e s m args below meth c H locs ls C hP hS hl)
theorem a_goto {off : Int} (tgt : Nat) (ht : (pc : Int) + off = (tgt : Int)) (d : decode mc.2.1 pc = .ok (.goto off, 3)) (k : AW X mc Q tgt lv st M) : AW X mc Q pc lv st M :=
  fun hR p e s m args below meth c H locs ls C hP hS hl => lv_goto C.1 C.2.1 d ht (k hR p e s m args below meth c H locs ls C hP hS hl)
theorem a_icmp_eq {a b off : Int} (tgt : Nat) (ga : rg a) (gb : rg b) (ht : (pc : Int) + off = (tgt : Int)) (d : decode mc.2.1 pc = .ok (.if_icmp .eq off, 3)) (kt : a = b → AW X mc Q tgt lv st M) (kf : ¬ a = b → AW X mc Q (pc + 3) lv st M) : AW X mc Q pc lv (vi b :: vi a :: st) M :=
  fun hR p e s m args below meth c H locs ls C hP hS hl => lv_icmp_eq C.1 C.2.1 d ht (fun h => kt ((eq_I ga gb).mp h) hR p e s m args below meth c H locs ls C hP hS hl) (fun h => kf (fun q => h ((eq_I ga gb).mpr q)) hR p e s m args below meth c H locs ls C hP hS hl)
theorem a_icmp_ne {a b off : Int} (tgt : Nat) (ga : rg a) (gb : rg b) (ht : (pc : Int) + off = (tgt : Int)) (d : decode mc.2.1 pc = .ok (.if_icmp .ne off, 3)) (kt : ¬ a = b → AW X mc Q tgt lv st M) (kf : a = b → AW X mc Q (pc + 3) lv st M) : AW X mc Q pc lv (vi b :: vi a :: st) M :=
  fun hR p e s m args below meth c H locs ls C hP hS hl => lv_icmp_ne C.1 C.2.1 d ht (fun h => kt (fun q => h ((eq_I ga gb).mpr q)) hR p e s m args below meth c H locs ls C hP hS hl) (fun h => kf ((eq_I ga gb).mp h) hR p e s m args below meth c H locs ls C hP hS hl)
theorem a_icmp_lt {a b off : Int} (tgt : Nat) (ga : rg a) (gb : rg b) (ht : (pc : Int) + off = (tgt : Int)) (d : decode mc.2.1 pc = .ok (.if_icmp .lt off, 3)) (kt : a < b → AW X mc Q tgt lv st M) (kf : ¬ a < b → AW X mc Q (pc + 3) lv st M) : AW X mc Q pc lv (vi b :: vi a :: st) M :=
  fun hR p e s m args below meth c H locs ls C hP hS hl => lv_icmp_lt C.1 C.2.1 d ht (fun h => kt ((lt_I ga gb).mp h) hR p e s m args below meth c H locs ls C hP hS hl) (fun h => kf (fun q => h ((lt_I ga gb).mpr q)) hR p e s m args below meth c H locs ls C hP hS hl)
theorem a_icmp_le {a b off : Int} (tgt : Nat) (ga : rg a) (gb : rg b) (ht : (pc : Int) + off = (tgt : Int)) (d : decode mc.2.1 pc = .ok (.if_icmp .le off, 3)) (kt : a ≤ b → AW X mc Q tgt lv st M) (kf : ¬ a ≤ b → AW X mc Q (pc + 3) lv st M) : AW X mc Q pc lv (vi b :: vi a :: st) M :=
  fun hR p e s m args below meth c H locs ls C hP hS hl => lv_icmp_le C.1 C.2.1 d ht (fun h => kt ((le_I ga gb).mp h) hR p e s m args below meth c H locs ls C hP hS hl) (fun h => kf (fun q => h ((le_I ga gb).mpr q)) hR p e s m args below meth c H locs ls C hP hS hl)
theorem a_icmp_gt {a b off : Int} (tgt : Nat) (ga : rg a) (gb : rg b) (ht : (pc : Int) + off = (tgt : Int)) (d : decode mc.2.1 pc = .ok (.if_icmp .gt off, 3)) (kt : b < a → AW X mc Q tgt lv st M) (kf : ¬ b < a → AW X mc Q (pc + 3) lv st M) : AW X mc Q pc lv (vi b :: vi a :: st) M :=
  fun hR p e s m args below meth c H locs ls C hP hS hl => lv_icmp_gt C.1 C.2.1 d ht (fun h => kt ((lt_I gb ga).mp h) hR p e s m args below meth c H locs ls C hP hS hl) (fun h => kf (fun q => h ((lt_I gb ga).mpr q)) hR p e s m args below meth c H locs ls C hP hS hl)
theorem a_icmp_ge {a b off : Int} (tgt : Nat) (ga : rg a) (gb : rg b) (ht : (pc : Int) + off = (tgt : Int)) (d : decode mc.2.1 pc = .ok (.if_icmp .ge off, 3)) (kt : b ≤ a → AW X mc Q tgt lv st M) (kf : ¬ b ≤ a → AW X mc Q (pc + 3) lv st M) : AW X mc Q pc lv (vi b :: vi a :: st) M :=
  fun hR p e s m args below meth c H locs ls C hP hS hl => lv_icmp_ge C.1 C.2.1 d ht (fun h => kt ((le_I gb ga).mp h) hR p e s m args below meth c H locs ls C hP hS hl) (fun h => kf (fun q => h ((le_I gb ga).mpr q)) hR p e s m args below meth c H locs ls C hP hS hl)
theorem a_if_eq {a off : Int} (tgt : Nat) (ga : rg a) (ht : (pc : Int) + off = (tgt : Int)) (d : decode mc.2.1 pc = .ok (.ifCond .eq off, 3)) (kt : a = 0 → AW X mc Q tgt lv st M) (kf : ¬ a = 0 → AW X mc Q (pc + 3) lv st M) : AW X mc Q pc lv (vi a :: st) M :=
  fun hR p e s m args below meth c H locs ls C hP hS hl => lv_if_eq C.1 C.2.1 d ht (fun h => kt ((eq_I ga rg_0).mp h) hR p e s m args below meth c H locs ls C hP hS hl) (fun h => kf (fun q => h ((eq_I ga rg_0).mpr q)) hR p e s m args below meth c H locs ls C hP hS hl)
theorem a_if_ne {a off : Int} (tgt : Nat) (ga : rg a) (ht : (pc : Int) + off = (tgt : Int)) (d : decode mc.2.1 pc = .ok (.ifCond .ne off, 3)) (kt : ¬ a = 0 → AW X mc Q tgt lv st M) (kf : a = 0 → AW X mc Q (pc + 3) lv st M) : AW X mc Q pc lv (vi a :: st) M :=
  fun hR p e s m args below meth c H locs ls C hP hS hl => lv_if_ne C.1 C.2.1 d ht (fun h => kt (fun q => h ((eq_I ga rg_0).mpr q)) hR p e s m args below meth c H locs ls C hP hS hl) (fun h => kf ((eq_I ga rg_0).mp h) hR p e s m args below meth c H locs ls C hP hS hl)
theorem a_if_lt {a off : Int} (tgt : Nat) (ga : rg a) (ht : (pc : Int) + off = (tgt : Int)) (d : decode mc.2.1 pc = .ok (.ifCond .lt off, 3)) (kt : a < 0 → AW X mc Q tgt lv st M) (kf : ¬ a < 0 → AW X mc Q (pc + 3) lv st M) : AW X mc Q pc lv (vi a :: st) M :=
  fun hR p e s m args below meth c H locs ls C hP hS hl => lv_if_lt C.1 C.2.1 d ht (fun h => kt ((lt_I ga rg_0).mp h) hR p e s m args below meth c H locs ls C hP hS hl) (fun h => kf (fun q => h ((lt_I ga rg_0).mpr q)) hR p e s m args below meth c H locs ls C hP hS hl)
theorem a_if_le {a off : Int} (tgt : Nat) (ga : rg a) (ht : (pc : Int) + off = (tgt : Int)) (d : decode mc.2.1 pc = .ok (.ifCond .le off, 3)) (kt : a ≤ 0 → AW X mc Q tgt lv st M) (kf : ¬ a ≤ 0 → AW X mc Q (pc + 3) lv st M) : AW X mc Q pc lv (vi a :: st) M :=
  fun hR p e s m args below meth c H locs ls C hP hS hl => lv_if_le C.1 C.2.1 d ht (fun h => kt ((le_I ga rg_0).mp h) hR p e s m args below meth c H locs ls C hP hS hl) (fun h => kf (fun q => h ((le_I ga rg_0).mpr q)) hR p e s m args below meth c H locs ls C hP hS hl)
theorem a_if_gt {a off : Int} (tgt : Nat) (ga : rg a) (ht : (pc : Int) + off = (tgt : Int)) (d : decode mc.2.1 pc = .ok (.ifCond .gt off, 3)) (kt : 0 < a → AW X mc Q tgt lv st M) (kf : ¬ 0 < a → AW X mc Q (pc + 3) lv st M) : AW X mc Q pc lv (vi a :: st) M :=
  fun hR p e s m args below meth c H locs ls C hP hS hl => lv_if_gt C.1 C.2.1 d ht (fun h => kt ((lt_I rg_0 ga).mp h) hR p e s m args below meth c H locs ls C hP hS hl) (fun h => kf (fun q => h ((lt_I rg_0 ga).mpr q)) hR p e s m args below meth c H locs ls C hP hS hl)
theorem a_if_ge {a off : Int} (tgt : Nat) (ga : rg a) (ht : (pc : Int) + off = (tgt : Int)) (d : decode mc.2.1 pc = .ok (.ifCond .ge off, 3)) (kt : 0 ≤ a → AW X mc Q tgt lv st M) (kf : ¬ 0 ≤ a → AW X mc Q (pc + 3) lv st M) : AW X mc Q pc lv (vi a :: st) M :=
  fun hR p e s m args below meth c H locs ls C hP hS hl => lv_if_ge C.1 C.2.1 d ht (fun h => kt ((le_I rg_0 ga).mp h) hR p e s m args below meth c H locs ls C hP hS hl) (fun h => kf (fun q => h ((le_I rg_0 ga).mpr q)) hR p e s m args below meth c H locs ls C hP hS hl)
theorem a_tsOut {a dflt lo hi : Int} {offs : Array Int} {len : Nat} (tgt : Nat) (ga : rg a) (ht : (pc : Int) + dflt = (tgt : Int)) (d : decode mc.2.1 pc = .ok (.tableswitch dflt lo hi offs, len)) (h : a < lo ∨ hi < a) (k : AW X mc Q tgt lv st M) : AW X mc Q pc lv (vi a :: st) M :=
  fun hR p e s m args below meth c H locs ls C hP hS hl => lv_tableOut C.1 C.2.1 d (by rw [toI ga]; exact h) ht (k hR p e s m args below meth c H locs ls C hP hS hl)
theorem a_tsIn {a b dflt lo hi off : Int} {offs : Array Int} {len : Nat} (tgt : Nat) (ga : rg a) (ht : (pc : Int) + off = (tgt : Int)) (d : decode mc.2.1 pc = .ok (.tableswitch dflt lo hi offs, len)) (h : a = b) (h1 : ¬ b < lo) (h2 : ¬ hi < b) (ho : offs[(b - lo).toNat]? = some off) (k : AW X mc Q tgt lv st M) : AW X mc Q pc lv (vi a :: st) M :=
  fun hR p e s m args below meth c H locs ls C hP hS hl => by
    subst h
    exact lv_tableIn C.1 C.2.1 d (by rw [toI ga]; exact h1) (by rw [toI ga]; exact h2) (by rw [toI ga]; exact ho) ht (k hR p e s m args below meth c H locs ls C hP hS hl)
end ROWS
