/-! Math.max of ints, Math.min of longs -/
def imax (a b : Int) : Int := if a < b then b else a
def imin (a b : Int) : Int := if b < a then b else a
theorem rg_imax {a b : Int} (ga : rg a) (gb : rg b) : rg (imax a b) := by
  unfold imax
  split
  · exact gb
  · exact ga
theorem rl_imin {a b : Int} (ga : rl a) (gb : rl b) : rl (imin a b) := by
  unfold imin
  split
  · exact gb
  · exact ga
section ROWS
variable {X : WX} {Q : Option Value → Mem → Prop} {pc : Nat} {lv : List (Nat × Value)} {st : List Value} {M : Mem} {own : String} {cc : ByteArray} {nL : Nat} {rt : Option FieldType} {dl : Nat}
theorem a_mmax {index : Nat} {a b : Int} (h1 : Cond.methodLink own index Lib.Math.max.name ∈ gtb) (h2 : Cond.static Lib.Math.max.name ∈ gtb) (h3 : Cond.initialized "java/lang/Math" ∈ gtb) (h4 : Cond.code Lib.Math.max.name Lib.Math.max.code 2 (some .int) ∈ gtb) (hd : 1 ≤ dl) (hrm : (st.map fun v => v.category).sum ≤ 8) (ga : rg a) (gb : rg b) (d : decode cc pc = .ok (.invokestatic index, 3)) (k : AW X (own, cc, nL, rt, rmL dl) Q (pc + 3) lv (vi (imax a b) :: st) M) : AW X (own, cc, nL, rt, rmL dl) Q pc lv (vi b :: vi a :: st) M :=
  fun hR p e s m args below meth c H locs ls C hP hS hl => by
    have hts := C.2.2.2.2.1
    refine va_mmax C.1 C.2.1 (C.2.2.2.1.trans hl.1.symm) C.2.2.2.2.2.1 (hts _ h1) (hts _ h2) (hts _ h3) (hts _ h4) hd (by show _ ≤ 40 * dl; omega) (Nat.zero_le _) (Nat.zero_le _) d ?_
    have e1 : (if Int32.ofInt a < Int32.ofInt b then Int32.ofInt b else Int32.ofInt a) = Int32.ofInt (imax a b) := by
      unfold imax
      simp only [lt_I ga gb]
      split <;> rfl
    rw [e1]
    exact k hR p e s m args below meth c H locs ls C hP hS hl
theorem a_mmin {index : Nat} {a b : Int} (h1 : Cond.methodLink own index Lib.MathLoose.min_long.x ∈ gtb) (h2 : Cond.static Lib.MathLoose.min_long.x ∈ gtb) (h3 : Cond.initialized "java/lang/Math" ∈ gtb) (h4 : Cond.code Lib.MathLoose.min_long.x Lib.MathLoose.min_long.code 4 (some .long) ∈ gtb) (hd : 1 ≤ dl) (hrm : (st.map fun v => v.category).sum ≤ 8) (ga : rl a) (gb : rl b) (d : decode cc pc = .ok (.invokestatic index, 3)) (k : AW X (own, cc, nL, rt, rmL dl) Q (pc + 3) lv (vl (imin a b) :: st) M) : AW X (own, cc, nL, rt, rmL dl) Q pc lv (vl b :: vl a :: st) M :=
  fun hR p e s m args below meth c H locs ls C hP hS hl => by
    have hts := C.2.2.2.2.1
    refine va_mmin_long C.1 C.2.1 (C.2.2.2.1.trans hl.1.symm) C.2.2.2.2.2.1 (hts _ h1) (hts _ h2) (hts _ h3) (hts _ h4) hd (by show _ ≤ 40 * dl; omega) (Nat.zero_le _) (Nat.zero_le _) d ?_
    have e1 : (if Int64.ofInt b < Int64.ofInt a then Int64.ofInt b else Int64.ofInt a) = Int64.ofInt (imin a b) := by
      unfold imin
      simp only [lt_L gb ga]
      split <;> rfl
    rw [e1]
    exact k hR p e s m args below meth c H locs ls C hP hS hl
end ROWS
